section
-- ===== PART A: goes FIRST, ahead of the names: the tables' words, and 'selects' of the private methods out of them =====
/-- a private method of a class that the tables say can be made, by its rows of tables_1 -/
def lw_okq (q : MethodName × Nat) : Prop := (q.1.cls ≠ "java/lang/invoke/MethodHandle" ∧ q.1.cls ≠ "java/lang/invoke/VarHandle") ∧ Cond.instantiable q.1.cls q.2 ∈ tables_1 ∧ Cond.privateMethod q.1 ∈ tables_1 ∧ Cond.instanceMethod q.1 ∈ tables_1
theorem lw_p0 : lw_okq (⟨"DuckWalk", "found", "(I)I"⟩, 15) := ⟨⟨by decide +kernel, by decide +kernel⟩, List.mem_of_getElem? (i := 17) (by decide +kernel), List.mem_of_getElem? (i := 310) (by decide +kernel), List.mem_of_getElem? (i := 311) (by decide +kernel)⟩
theorem lw_p1 : lw_okq (⟨"DuckWalk", "tell", "(I)I"⟩, 15) := ⟨⟨by decide +kernel, by decide +kernel⟩, List.mem_of_getElem? (i := 17) (by decide +kernel), List.mem_of_getElem? (i := 333) (by decide +kernel), List.mem_of_getElem? (i := 334) (by decide +kernel)⟩
theorem lw_p2 : lw_okq (⟨"DuckWalk$Reader", "readRub", "(LDuckWalk$Script;I)I"⟩, 4) := ⟨⟨by decide +kernel, by decide +kernel⟩, List.mem_of_getElem? (i := 134) (by decide +kernel), List.mem_of_getElem? (i := 408) (by decide +kernel), List.mem_of_getElem? (i := 409) (by decide +kernel)⟩
theorem lw_p3 : lw_okq (⟨"DuckWalk$Reader", "faultAt", "(I)I"⟩, 4) := ⟨⟨by decide +kernel, by decide +kernel⟩, List.mem_of_getElem? (i := 134) (by decide +kernel), List.mem_of_getElem? (i := 418) (by decide +kernel), List.mem_of_getElem? (i := 419) (by decide +kernel)⟩
theorem lw_p4 : lw_okq (⟨"DuckWalk$Reader", "readBump", "(LDuckWalk$Script;I)I"⟩, 4) := ⟨⟨by decide +kernel, by decide +kernel⟩, List.mem_of_getElem? (i := 134) (by decide +kernel), List.mem_of_getElem? (i := 422) (by decide +kernel), List.mem_of_getElem? (i := 423) (by decide +kernel)⟩
theorem lw_p5 : lw_okq (⟨"DuckWalk$Reader", "readSize", "(LDuckWalk$Script;I)I"⟩, 4) := ⟨⟨by decide +kernel, by decide +kernel⟩, List.mem_of_getElem? (i := 134) (by decide +kernel), List.mem_of_getElem? (i := 440) (by decide +kernel), List.mem_of_getElem? (i := 441) (by decide +kernel)⟩
theorem lw_p6 : lw_okq (⟨"DuckWalk", "isReady", "(II)Z"⟩, 15) := ⟨⟨by decide +kernel, by decide +kernel⟩, List.mem_of_getElem? (i := 17) (by decide +kernel), List.mem_of_getElem? (i := 597) (by decide +kernel), List.mem_of_getElem? (i := 598) (by decide +kernel)⟩
theorem lw_p7 : lw_okq (⟨"DuckWalk$Trial", "closeTrip", "(II)V"⟩, 8) := ⟨⟨by decide +kernel, by decide +kernel⟩, List.mem_of_getElem? (i := 160) (by decide +kernel), List.mem_of_getElem? (i := 610) (by decide +kernel), List.mem_of_getElem? (i := 611) (by decide +kernel)⟩
theorem lw_p8 : lw_okq (⟨"DuckWalk", "refusalOfTocks", "(III)I"⟩, 15) := ⟨⟨by decide +kernel, by decide +kernel⟩, List.mem_of_getElem? (i := 17) (by decide +kernel), List.mem_of_getElem? (i := 677) (by decide +kernel), List.mem_of_getElem? (i := 678) (by decide +kernel)⟩
theorem lw_p9 : lw_okq (⟨"DuckWalk$Guess", "offOf", "(LDuckWalk$Course;LDuckWalk$Row;I)I"⟩, 4) := ⟨⟨by decide +kernel, by decide +kernel⟩, List.mem_of_getElem? (i := 198) (by decide +kernel), List.mem_of_getElem? (i := 686) (by decide +kernel), List.mem_of_getElem? (i := 687) (by decide +kernel)⟩
theorem lw_p10 : lw_okq (⟨"DuckWalk$Guess", "weigh", "(III)V"⟩, 4) := ⟨⟨by decide +kernel, by decide +kernel⟩, List.mem_of_getElem? (i := 198) (by decide +kernel), List.mem_of_getElem? (i := 693) (by decide +kernel), List.mem_of_getElem? (i := 694) (by decide +kernel)⟩
theorem lw_p11 : lw_okq (⟨"DuckWalk", "tellFraction", "(II)V"⟩, 15) := ⟨⟨by decide +kernel, by decide +kernel⟩, List.mem_of_getElem? (i := 17) (by decide +kernel), List.mem_of_getElem? (i := 701) (by decide +kernel), List.mem_of_getElem? (i := 702) (by decide +kernel)⟩
theorem lw_p12 : lw_okq (⟨"DuckWalk", "leastPush", "(LDuckWalk$Duck;IZ)I"⟩, 15) := ⟨⟨by decide +kernel, by decide +kernel⟩, List.mem_of_getElem? (i := 17) (by decide +kernel), List.mem_of_getElem? (i := 745) (by decide +kernel), List.mem_of_getElem? (i := 746) (by decide +kernel)⟩
theorem lw_p13 : lw_okq (⟨"DuckWalk", "bearsBump", "(IIII)Z"⟩, 15) := ⟨⟨by decide +kernel, by decide +kernel⟩, List.mem_of_getElem? (i := 17) (by decide +kernel), List.mem_of_getElem? (i := 753) (by decide +kernel), List.mem_of_getElem? (i := 754) (by decide +kernel)⟩
theorem lw_p14 : lw_okq (⟨"DuckWalk", "countOf", "(I)I"⟩, 15) := ⟨⟨by decide +kernel, by decide +kernel⟩, List.mem_of_getElem? (i := 17) (by decide +kernel), List.mem_of_getElem? (i := 777) (by decide +kernel), List.mem_of_getElem? (i := 778) (by decide +kernel)⟩
theorem lw_p15 : lw_okq (⟨"DuckWalk", "countDucks", "(Z)I"⟩, 15) := ⟨⟨by decide +kernel, by decide +kernel⟩, List.mem_of_getElem? (i := 17) (by decide +kernel), List.mem_of_getElem? (i := 781) (by decide +kernel), List.mem_of_getElem? (i := 782) (by decide +kernel)⟩
def lw_privs_1 : List (MethodName × Nat) := [(⟨"DuckWalk", "found", "(I)I"⟩, 15), (⟨"DuckWalk", "tell", "(I)I"⟩, 15), (⟨"DuckWalk$Reader", "readRub", "(LDuckWalk$Script;I)I"⟩, 4), (⟨"DuckWalk$Reader", "faultAt", "(I)I"⟩, 4), (⟨"DuckWalk$Reader", "readBump", "(LDuckWalk$Script;I)I"⟩, 4), (⟨"DuckWalk$Reader", "readSize", "(LDuckWalk$Script;I)I"⟩, 4), (⟨"DuckWalk", "isReady", "(II)Z"⟩, 15), (⟨"DuckWalk$Trial", "closeTrip", "(II)V"⟩, 8), (⟨"DuckWalk", "refusalOfTocks", "(III)I"⟩, 15), (⟨"DuckWalk$Guess", "offOf", "(LDuckWalk$Course;LDuckWalk$Row;I)I"⟩, 4), (⟨"DuckWalk$Guess", "weigh", "(III)V"⟩, 4), (⟨"DuckWalk", "tellFraction", "(II)V"⟩, 15), (⟨"DuckWalk", "leastPush", "(LDuckWalk$Duck;IZ)I"⟩, 15), (⟨"DuckWalk", "bearsBump", "(IIII)Z"⟩, 15), (⟨"DuckWalk", "countOf", "(I)I"⟩, 15), (⟨"DuckWalk", "countDucks", "(Z)I"⟩, 15)]
theorem lw_r1 : ∀ q ∈ lw_privs_1, lw_okq q := List.forall_mem_cons.mpr ⟨lw_p0, List.forall_mem_cons.mpr ⟨lw_p1, List.forall_mem_cons.mpr ⟨lw_p2, List.forall_mem_cons.mpr ⟨lw_p3, List.forall_mem_cons.mpr ⟨lw_p4, List.forall_mem_cons.mpr ⟨lw_p5, List.forall_mem_cons.mpr ⟨lw_p6, List.forall_mem_cons.mpr ⟨lw_p7, List.forall_mem_cons.mpr ⟨lw_p8, List.forall_mem_cons.mpr ⟨lw_p9, List.forall_mem_cons.mpr ⟨lw_p10, List.forall_mem_cons.mpr ⟨lw_p11, List.forall_mem_cons.mpr ⟨lw_p12, List.forall_mem_cons.mpr ⟨lw_p13, List.forall_mem_cons.mpr ⟨lw_p14, List.forall_mem_cons.mpr ⟨lw_p15, fun _ h => absurd h List.not_mem_nil⟩⟩⟩⟩⟩⟩⟩⟩⟩⟩⟩⟩⟩⟩⟩⟩
theorem lw_p16 : lw_okq (⟨"DuckWalk", "countPlanks", "()I"⟩, 15) := ⟨⟨by decide +kernel, by decide +kernel⟩, List.mem_of_getElem? (i := 17) (by decide +kernel), List.mem_of_getElem? (i := 785) (by decide +kernel), List.mem_of_getElem? (i := 786) (by decide +kernel)⟩
theorem lw_p17 : lw_okq (⟨"DuckWalk", "countKept", "()I"⟩, 15) := ⟨⟨by decide +kernel, by decide +kernel⟩, List.mem_of_getElem? (i := 17) (by decide +kernel), List.mem_of_getElem? (i := 789) (by decide +kernel), List.mem_of_getElem? (i := 790) (by decide +kernel)⟩
theorem lw_p18 : lw_okq (⟨"DuckWalk", "countRows", "()I"⟩, 15) := ⟨⟨by decide +kernel, by decide +kernel⟩, List.mem_of_getElem? (i := 17) (by decide +kernel), List.mem_of_getElem? (i := 793) (by decide +kernel), List.mem_of_getElem? (i := 794) (by decide +kernel)⟩
theorem lw_p19 : lw_okq (⟨"DuckWalk", "countScripts", "()I"⟩, 15) := ⟨⟨by decide +kernel, by decide +kernel⟩, List.mem_of_getElem? (i := 17) (by decide +kernel), List.mem_of_getElem? (i := 797) (by decide +kernel), List.mem_of_getElem? (i := 798) (by decide +kernel)⟩
theorem lw_p20 : lw_okq (⟨"DuckWalkModel", "notes", "(I)I"⟩, 41) := ⟨⟨by decide +kernel, by decide +kernel⟩, List.mem_of_getElem? (i := 842) (by decide +kernel), List.mem_of_getElem? (i := 1003) (by decide +kernel), List.mem_of_getElem? (i := 1004) (by decide +kernel)⟩
theorem lw_p21 : lw_okq (⟨"DuckWalkModel", "rowAt", "(II)I"⟩, 41) := ⟨⟨by decide +kernel, by decide +kernel⟩, List.mem_of_getElem? (i := 842) (by decide +kernel), List.mem_of_getElem? (i := 1011) (by decide +kernel), List.mem_of_getElem? (i := 1012) (by decide +kernel)⟩
theorem lw_p22 : lw_okq (⟨"DuckWalkModel", "tells", "(II)I"⟩, 41) := ⟨⟨by decide +kernel, by decide +kernel⟩, List.mem_of_getElem? (i := 842) (by decide +kernel), List.mem_of_getElem? (i := 1015) (by decide +kernel), List.mem_of_getElem? (i := 1016) (by decide +kernel)⟩
theorem lw_p23 : lw_okq (⟨"DuckWalkModel", "boardFault", "(I)I"⟩, 41) := ⟨⟨by decide +kernel, by decide +kernel⟩, List.mem_of_getElem? (i := 842) (by decide +kernel), List.mem_of_getElem? (i := 1050) (by decide +kernel), List.mem_of_getElem? (i := 1051) (by decide +kernel)⟩
theorem lw_p24 : lw_okq (⟨"DuckWalkModel", "byteAt", "(II)I"⟩, 41) := ⟨⟨by decide +kernel, by decide +kernel⟩, List.mem_of_getElem? (i := 842) (by decide +kernel), List.mem_of_getElem? (i := 1054) (by decide +kernel), List.mem_of_getElem? (i := 1055) (by decide +kernel)⟩
theorem lw_p25 : lw_okq (⟨"DuckWalkModel", "readsBoard", "(I)Z"⟩, 41) := ⟨⟨by decide +kernel, by decide +kernel⟩, List.mem_of_getElem? (i := 842) (by decide +kernel), List.mem_of_getElem? (i := 1058) (by decide +kernel), List.mem_of_getElem? (i := 1059) (by decide +kernel)⟩
theorem lw_p26 : lw_okq (⟨"DuckWalkModel", "figure", "(II)Z"⟩, 41) := ⟨⟨by decide +kernel, by decide +kernel⟩, List.mem_of_getElem? (i := 842) (by decide +kernel), List.mem_of_getElem? (i := 1062) (by decide +kernel), List.mem_of_getElem? (i := 1063) (by decide +kernel)⟩
theorem lw_p27 : lw_okq (⟨"DuckWalkModel", "walkerFault", "(I)I"⟩, 41) := ⟨⟨by decide +kernel, by decide +kernel⟩, List.mem_of_getElem? (i := 842) (by decide +kernel), List.mem_of_getElem? (i := 1066) (by decide +kernel), List.mem_of_getElem? (i := 1067) (by decide +kernel)⟩
theorem lw_p28 : lw_okq (⟨"DuckWalkModel", "readsSize", "(I)Z"⟩, 41) := ⟨⟨by decide +kernel, by decide +kernel⟩, List.mem_of_getElem? (i := 842) (by decide +kernel), List.mem_of_getElem? (i := 1070) (by decide +kernel), List.mem_of_getElem? (i := 1071) (by decide +kernel)⟩
theorem lw_p29 : lw_okq (⟨"DuckWalkModel", "starts", "(II)V"⟩, 41) := ⟨⟨by decide +kernel, by decide +kernel⟩, List.mem_of_getElem? (i := 842) (by decide +kernel), List.mem_of_getElem? (i := 1107) (by decide +kernel), List.mem_of_getElem? (i := 1108) (by decide +kernel)⟩
theorem lw_p30 : lw_okq (⟨"DuckWalkModel", "storeWalk", "()V"⟩, 41) := ⟨⟨by decide +kernel, by decide +kernel⟩, List.mem_of_getElem? (i := 842) (by decide +kernel), List.mem_of_getElem? (i := 1111) (by decide +kernel), List.mem_of_getElem? (i := 1112) (by decide +kernel)⟩
theorem lw_p31 : lw_okq (⟨"DuckWalkModel", "layWalk", "()V"⟩, 41) := ⟨⟨by decide +kernel, by decide +kernel⟩, List.mem_of_getElem? (i := 842) (by decide +kernel), List.mem_of_getElem? (i := 1115) (by decide +kernel), List.mem_of_getElem? (i := 1116) (by decide +kernel)⟩
def lw_privs_2 : List (MethodName × Nat) := [(⟨"DuckWalk", "countPlanks", "()I"⟩, 15), (⟨"DuckWalk", "countKept", "()I"⟩, 15), (⟨"DuckWalk", "countRows", "()I"⟩, 15), (⟨"DuckWalk", "countScripts", "()I"⟩, 15), (⟨"DuckWalkModel", "notes", "(I)I"⟩, 41), (⟨"DuckWalkModel", "rowAt", "(II)I"⟩, 41), (⟨"DuckWalkModel", "tells", "(II)I"⟩, 41), (⟨"DuckWalkModel", "boardFault", "(I)I"⟩, 41), (⟨"DuckWalkModel", "byteAt", "(II)I"⟩, 41), (⟨"DuckWalkModel", "readsBoard", "(I)Z"⟩, 41), (⟨"DuckWalkModel", "figure", "(II)Z"⟩, 41), (⟨"DuckWalkModel", "walkerFault", "(I)I"⟩, 41), (⟨"DuckWalkModel", "readsSize", "(I)Z"⟩, 41), (⟨"DuckWalkModel", "starts", "(II)V"⟩, 41), (⟨"DuckWalkModel", "storeWalk", "()V"⟩, 41), (⟨"DuckWalkModel", "layWalk", "()V"⟩, 41)]
theorem lw_r2 : ∀ q ∈ lw_privs_2, lw_okq q := List.forall_mem_cons.mpr ⟨lw_p16, List.forall_mem_cons.mpr ⟨lw_p17, List.forall_mem_cons.mpr ⟨lw_p18, List.forall_mem_cons.mpr ⟨lw_p19, List.forall_mem_cons.mpr ⟨lw_p20, List.forall_mem_cons.mpr ⟨lw_p21, List.forall_mem_cons.mpr ⟨lw_p22, List.forall_mem_cons.mpr ⟨lw_p23, List.forall_mem_cons.mpr ⟨lw_p24, List.forall_mem_cons.mpr ⟨lw_p25, List.forall_mem_cons.mpr ⟨lw_p26, List.forall_mem_cons.mpr ⟨lw_p27, List.forall_mem_cons.mpr ⟨lw_p28, List.forall_mem_cons.mpr ⟨lw_p29, List.forall_mem_cons.mpr ⟨lw_p30, List.forall_mem_cons.mpr ⟨lw_p31, fun _ h => absurd h List.not_mem_nil⟩⟩⟩⟩⟩⟩⟩⟩⟩⟩⟩⟩⟩⟩⟩⟩
theorem lw_p32 : lw_okq (⟨"DuckWalkModel", "gain", "()I"⟩, 41) := ⟨⟨by decide +kernel, by decide +kernel⟩, List.mem_of_getElem? (i := 842) (by decide +kernel), List.mem_of_getElem? (i := 1119) (by decide +kernel), List.mem_of_getElem? (i := 1120) (by decide +kernel)⟩
theorem lw_p33 : lw_okq (⟨"DuckWalkModel", "walksOn", "()Z"⟩, 41) := ⟨⟨by decide +kernel, by decide +kernel⟩, List.mem_of_getElem? (i := 842) (by decide +kernel), List.mem_of_getElem? (i := 1127) (by decide +kernel), List.mem_of_getElem? (i := 1128) (by decide +kernel)⟩
theorem lw_p34 : lw_okq (⟨"DuckWalkModel", "step", "(I)V"⟩, 41) := ⟨⟨by decide +kernel, by decide +kernel⟩, List.mem_of_getElem? (i := 842) (by decide +kernel), List.mem_of_getElem? (i := 1131) (by decide +kernel), List.mem_of_getElem? (i := 1132) (by decide +kernel)⟩
theorem lw_p35 : lw_okq (⟨"DuckWalkModel", "fallsAt", "()I"⟩, 41) := ⟨⟨by decide +kernel, by decide +kernel⟩, List.mem_of_getElem? (i := 842) (by decide +kernel), List.mem_of_getElem? (i := 1135) (by decide +kernel), List.mem_of_getElem? (i := 1136) (by decide +kernel)⟩
theorem lw_p36 : lw_okq (⟨"DuckWalkModel", "walkTells", "(I)I"⟩, 41) := ⟨⟨by decide +kernel, by decide +kernel⟩, List.mem_of_getElem? (i := 842) (by decide +kernel), List.mem_of_getElem? (i := 1143) (by decide +kernel), List.mem_of_getElem? (i := 1144) (by decide +kernel)⟩
theorem lw_p37 : lw_okq (⟨"DuckWalkModel", "copyWalk", "(II)V"⟩, 41) := ⟨⟨by decide +kernel, by decide +kernel⟩, List.mem_of_getElem? (i := 842) (by decide +kernel), List.mem_of_getElem? (i := 1159) (by decide +kernel), List.mem_of_getElem? (i := 1160) (by decide +kernel)⟩
theorem lw_p38 : lw_okq (⟨"DuckWalkModel", "need", "(ZIIII)I"⟩, 41) := ⟨⟨by decide +kernel, by decide +kernel⟩, List.mem_of_getElem? (i := 842) (by decide +kernel), List.mem_of_getElem? (i := 1175) (by decide +kernel), List.mem_of_getElem? (i := 1176) (by decide +kernel)⟩
theorem lw_p39 : lw_okq (⟨"DuckWalkModel", "areGood", "(IIII)Z"⟩, 41) := ⟨⟨by decide +kernel, by decide +kernel⟩, List.mem_of_getElem? (i := 842) (by decide +kernel), List.mem_of_getElem? (i := 1179) (by decide +kernel), List.mem_of_getElem? (i := 1180) (by decide +kernel)⟩
theorem lw_p40 : lw_okq (⟨"DuckWalkModel", "looksAt", "(III)V"⟩, 41) := ⟨⟨by decide +kernel, by decide +kernel⟩, List.mem_of_getElem? (i := 842) (by decide +kernel), List.mem_of_getElem? (i := 1183) (by decide +kernel), List.mem_of_getElem? (i := 1184) (by decide +kernel)⟩
theorem lw_p41 : lw_okq (⟨"DuckWalkModel", "goingOf", "(I)I"⟩, 41) := ⟨⟨by decide +kernel, by decide +kernel⟩, List.mem_of_getElem? (i := 842) (by decide +kernel), List.mem_of_getElem? (i := 1187) (by decide +kernel), List.mem_of_getElem? (i := 1188) (by decide +kernel)⟩
theorem lw_p42 : lw_okq (⟨"DuckWalkModel", "steps", "(I)V"⟩, 41) := ⟨⟨by decide +kernel, by decide +kernel⟩, List.mem_of_getElem? (i := 842) (by decide +kernel), List.mem_of_getElem? (i := 1191) (by decide +kernel), List.mem_of_getElem? (i := 1192) (by decide +kernel)⟩
theorem lw_p43 : lw_okq (⟨"DuckWalkModel", "unlikePaces", "(I)I"⟩, 41) := ⟨⟨by decide +kernel, by decide +kernel⟩, List.mem_of_getElem? (i := 842) (by decide +kernel), List.mem_of_getElem? (i := 1208) (by decide +kernel), List.mem_of_getElem? (i := 1209) (by decide +kernel)⟩
theorem lw_p44 : lw_okq (⟨"DuckWalkModel", "walksWell", "(I)Z"⟩, 41) := ⟨⟨by decide +kernel, by decide +kernel⟩, List.mem_of_getElem? (i := 842) (by decide +kernel), List.mem_of_getElem? (i := 1220) (by decide +kernel), List.mem_of_getElem? (i := 1221) (by decide +kernel)⟩
theorem lw_p45 : lw_okq (⟨"DuckWalkModel", "span", "(I)I"⟩, 41) := ⟨⟨by decide +kernel, by decide +kernel⟩, List.mem_of_getElem? (i := 842) (by decide +kernel), List.mem_of_getElem? (i := 1232) (by decide +kernel), List.mem_of_getElem? (i := 1233) (by decide +kernel)⟩
theorem lw_p46 : lw_okq (⟨"DuckWalkModel", "needTocks", "(III)I"⟩, 41) := ⟨⟨by decide +kernel, by decide +kernel⟩, List.mem_of_getElem? (i := 842) (by decide +kernel), List.mem_of_getElem? (i := 1244) (by decide +kernel), List.mem_of_getElem? (i := 1245) (by decide +kernel)⟩
theorem lw_p47 : lw_okq (⟨"DuckWalkModel", "offTocks", "(III)I"⟩, 41) := ⟨⟨by decide +kernel, by decide +kernel⟩, List.mem_of_getElem? (i := 842) (by decide +kernel), List.mem_of_getElem? (i := 1248) (by decide +kernel), List.mem_of_getElem? (i := 1249) (by decide +kernel)⟩
def lw_privs_3 : List (MethodName × Nat) := [(⟨"DuckWalkModel", "gain", "()I"⟩, 41), (⟨"DuckWalkModel", "walksOn", "()Z"⟩, 41), (⟨"DuckWalkModel", "step", "(I)V"⟩, 41), (⟨"DuckWalkModel", "fallsAt", "()I"⟩, 41), (⟨"DuckWalkModel", "walkTells", "(I)I"⟩, 41), (⟨"DuckWalkModel", "copyWalk", "(II)V"⟩, 41), (⟨"DuckWalkModel", "need", "(ZIIII)I"⟩, 41), (⟨"DuckWalkModel", "areGood", "(IIII)Z"⟩, 41), (⟨"DuckWalkModel", "looksAt", "(III)V"⟩, 41), (⟨"DuckWalkModel", "goingOf", "(I)I"⟩, 41), (⟨"DuckWalkModel", "steps", "(I)V"⟩, 41), (⟨"DuckWalkModel", "unlikePaces", "(I)I"⟩, 41), (⟨"DuckWalkModel", "walksWell", "(I)Z"⟩, 41), (⟨"DuckWalkModel", "span", "(I)I"⟩, 41), (⟨"DuckWalkModel", "needTocks", "(III)I"⟩, 41), (⟨"DuckWalkModel", "offTocks", "(III)I"⟩, 41)]
theorem lw_r3 : ∀ q ∈ lw_privs_3, lw_okq q := List.forall_mem_cons.mpr ⟨lw_p32, List.forall_mem_cons.mpr ⟨lw_p33, List.forall_mem_cons.mpr ⟨lw_p34, List.forall_mem_cons.mpr ⟨lw_p35, List.forall_mem_cons.mpr ⟨lw_p36, List.forall_mem_cons.mpr ⟨lw_p37, List.forall_mem_cons.mpr ⟨lw_p38, List.forall_mem_cons.mpr ⟨lw_p39, List.forall_mem_cons.mpr ⟨lw_p40, List.forall_mem_cons.mpr ⟨lw_p41, List.forall_mem_cons.mpr ⟨lw_p42, List.forall_mem_cons.mpr ⟨lw_p43, List.forall_mem_cons.mpr ⟨lw_p44, List.forall_mem_cons.mpr ⟨lw_p45, List.forall_mem_cons.mpr ⟨lw_p46, List.forall_mem_cons.mpr ⟨lw_p47, fun _ h => absurd h List.not_mem_nil⟩⟩⟩⟩⟩⟩⟩⟩⟩⟩⟩⟩⟩⟩⟩⟩
theorem lw_p48 : lw_okq (⟨"DuckWalkModel", "fraction", "(JJI)I"⟩, 41) := ⟨⟨by decide +kernel, by decide +kernel⟩, List.mem_of_getElem? (i := 842) (by decide +kernel), List.mem_of_getElem? (i := 1256) (by decide +kernel), List.mem_of_getElem? (i := 1257) (by decide +kernel)⟩
theorem lw_p49 : lw_okq (⟨"DuckWalkModel", "counted", "(I)I"⟩, 41) := ⟨⟨by decide +kernel, by decide +kernel⟩, List.mem_of_getElem? (i := 842) (by decide +kernel), List.mem_of_getElem? (i := 1292) (by decide +kernel), List.mem_of_getElem? (i := 1293) (by decide +kernel)⟩
theorem lw_p50 : lw_okq (⟨"DuckWalkModel", "mix", "(J)V"⟩, 41) := ⟨⟨by decide +kernel, by decide +kernel⟩, List.mem_of_getElem? (i := 842) (by decide +kernel), List.mem_of_getElem? (i := 1301) (by decide +kernel), List.mem_of_getElem? (i := 1302) (by decide +kernel)⟩
theorem lw_p51 : lw_okq (⟨"DuckWalkModel", "mixBooks", "()V"⟩, 41) := ⟨⟨by decide +kernel, by decide +kernel⟩, List.mem_of_getElem? (i := 842) (by decide +kernel), List.mem_of_getElem? (i := 1306) (by decide +kernel), List.mem_of_getElem? (i := 1307) (by decide +kernel)⟩
def lw_privs_4 : List (MethodName × Nat) := [(⟨"DuckWalkModel", "fraction", "(JJI)I"⟩, 41), (⟨"DuckWalkModel", "counted", "(I)I"⟩, 41), (⟨"DuckWalkModel", "mix", "(J)V"⟩, 41), (⟨"DuckWalkModel", "mixBooks", "()V"⟩, 41)]
theorem lw_r4 : ∀ q ∈ lw_privs_4, lw_okq q := List.forall_mem_cons.mpr ⟨lw_p48, List.forall_mem_cons.mpr ⟨lw_p49, List.forall_mem_cons.mpr ⟨lw_p50, List.forall_mem_cons.mpr ⟨lw_p51, fun _ h => absurd h List.not_mem_nil⟩⟩⟩⟩
def lw_privs : List (MethodName × Nat) := lw_privs_1 ++ (lw_privs_2 ++ (lw_privs_3 ++ (lw_privs_4)))
def lw_tbl : List Cond := k2_sels lw_privs ++ tables_1
theorem lw_privs_ok : ∀ q ∈ lw_privs, lw_okq q := by
  show ∀ q ∈ lw_privs_1 ++ (lw_privs_2 ++ (lw_privs_3 ++ (lw_privs_4))), lw_okq q
  exact List.forall_mem_append.mpr ⟨lw_r1, List.forall_mem_append.mpr ⟨lw_r2, List.forall_mem_append.mpr ⟨lw_r3, lw_r4⟩⟩⟩
def RX0 : String := "DuckWalk$Course"
def TX0 : u_T := fun k => match k with
  | 0 => ("DuckWalk$Course", "duck", "LDuckWalk$Duck;", true)
  | 1 => ("DuckWalk$Course", "plank", "LDuckWalk$Plank;", true)
  | 2 => ("DuckWalk$Course", "there", "Z", false)
  | 3 => ("DuckWalk$Course", "slope", "I", false)
  | 4 => ("DuckWalk$Course", "pace", "I", false)
  | 5 => ("DuckWalk$Course", "foot", "I", false)
  | 6 => ("DuckWalk$Course", "steps", "I", false)
  | 7 => ("DuckWalk$Course", "end", "I", false)
  | 8 => ("DuckWalk$Course", "lost", "I", false)
  | _ => ("DuckWalk$Course", "went", "I", false)
def tyX0 : Nat → FieldType := fun k => match k with
  | 0 => .object "DuckWalk$Duck"
  | 1 => .object "DuckWalk$Plank"
  | 2 => .boolean
  | 3 => .int
  | 4 => .int
  | 5 => .int
  | 6 => .int
  | 7 => .int
  | 8 => .int
  | _ => .int
theorem nmX0 : ∀ a, a < 10 → ∀ b, b < 10 → a ≠ b → (TX0 a).2.1 ≠ (TX0 b).2.1 := by decide +kernel
theorem tyX0_ok : ∀ k, k < 10 → parseFieldDescriptor (TX0 k).2.2.1 = some (tyX0 k) := by decide +kernel
abbrev cX0_init : ByteArray := prog_2_method_1_code
def yX0_init : MethodName := ⟨RX0, "<init>", "()V"⟩
abbrev cX0_begin : ByteArray := prog_2_method_2_code
def yX0_begin : MethodName := ⟨RX0, "begin", "(III)V"⟩
abbrev cX0_take : ByteArray := prog_2_method_3_code
def yX0_take : MethodName := ⟨RX0, "take", "(LDuckWalk$Course;)V"⟩
abbrev cX0_stride : ByteArray := prog_2_method_4_code
def yX0_stride : MethodName := ⟨RX0, "stride", "()Z"⟩
abbrev cX0_strideOn : ByteArray := prog_2_method_5_code
def yX0_strideOn : MethodName := ⟨RX0, "strideOn", "(I)I"⟩
abbrev cX0_value : ByteArray := prog_2_method_6_code
def yX0_value : MethodName := ⟨RX0, "value", "(I)I"⟩
abbrev cX0_digestOn : ByteArray := prog_2_method_7_code
def yX0_digestOn : MethodName := ⟨RX0, "digestOn", "(J)J"⟩
def RX1 : String := "DuckWalk$Duck"
def TX1 : u_T := fun k => match k with
  | 0 => ("DuckWalk$Duck", "sizes", "[I", true)
  | 1 => ("DuckWalk$Duck", "untold", "I", false)
  | _ => ("DuckWalk$Duck", "there", "Z", false)
def tyX1 : Nat → FieldType := fun k => match k with
  | 0 => .array .int
  | 1 => .int
  | _ => .boolean
theorem nmX1 : ∀ a, a < 3 → ∀ b, b < 3 → a ≠ b → (TX1 a).2.1 ≠ (TX1 b).2.1 := by decide +kernel
theorem tyX1_ok : ∀ k, k < 3 → parseFieldDescriptor (TX1 k).2.2.1 = some (tyX1 k) := by decide +kernel
abbrev cX1_init : ByteArray := prog_3_method_1_code
def yX1_init : MethodName := ⟨RX1, "<init>", "()V"⟩
abbrev cX1_clear : ByteArray := prog_3_method_2_code
def yX1_clear : MethodName := ⟨RX1, "clear", "()V"⟩
abbrev cX1_take : ByteArray := prog_3_method_3_code
def yX1_take : MethodName := ⟨RX1, "take", "(LDuckWalk$Duck;)V"⟩
abbrev cX1_shape : ByteArray := prog_3_method_4_code
def yX1_shape : MethodName := ⟨RX1, "shape", "(III)V"⟩
abbrev cX1_isUntold : ByteArray := prog_3_method_5_code
def yX1_isUntold : MethodName := ⟨RX1, "isUntold", "(I)Z"⟩
abbrev cX1_ways : ByteArray := prog_3_method_6_code
def yX1_ways : MethodName := ⟨RX1, "ways", "()I"⟩
abbrev cX1_tellUntold : ByteArray := prog_3_method_7_code
def yX1_tellUntold : MethodName := ⟨RX1, "tellUntold", "(I)V"⟩
abbrev cX1_asNumber : ByteArray := prog_3_method_8_code
def yX1_asNumber : MethodName := ⟨RX1, "asNumber", "()I"⟩
abbrev cX1_value : ByteArray := prog_3_method_9_code
def yX1_value : MethodName := ⟨RX1, "value", "(I)I"⟩
abbrev cX1_gain : ByteArray := prog_3_method_10_code
def yX1_gain : MethodName := ⟨RX1, "gain", "(II)I"⟩
abbrev cX1_damp : ByteArray := prog_3_method_11_code
def yX1_damp : MethodName := ⟨RX1, "damp", "()I"⟩
abbrev cX1_limit : ByteArray := prog_3_method_12_code
def yX1_limit : MethodName := ⟨RX1, "limit", "()I"⟩
abbrev cX1_digestOn : ByteArray := prog_3_method_13_code
def yX1_digestOn : MethodName := ⟨RX1, "digestOn", "(J)J"⟩
def RX2 : String := "DuckWalk$Guess"
def TX2 : u_T := fun k => match k with
  | 0 => ("DuckWalk$Guess", "least", "I", false)
  | 1 => ("DuckWalk$Guess", "first", "I", false)
  | 2 => ("DuckWalk$Guess", "pairs", "I", false)
  | _ => ("DuckWalk$Guess", "leading", "I", false)
def tyX2 : Nat → FieldType := fun k => match k with
  | 0 => .int
  | 1 => .int
  | 2 => .int
  | _ => .int
theorem nmX2 : ∀ a, a < 4 → ∀ b, b < 4 → a ≠ b → (TX2 a).2.1 ≠ (TX2 b).2.1 := by decide +kernel
theorem tyX2_ok : ∀ k, k < 4 → parseFieldDescriptor (TX2 k).2.2.1 = some (tyX2 k) := by decide +kernel
abbrev cX2_init : ByteArray := prog_4_method_1_code
def yX2_init : MethodName := ⟨RX2, "<init>", "()V"⟩
abbrev cX2_search : ByteArray := prog_4_method_2_code
def yX2_search : MethodName := ⟨RX2, "search", "(LDuckWalk$Course;LDuckWalk$Row;)V"⟩
abbrev cX2_weigh : ByteArray := prog_4_method_3_code
def yX2_weigh : MethodName := ⟨RX2, "weigh", "(III)V"⟩
abbrev cX2_offOf : ByteArray := prog_4_method_4_code
def yX2_offOf : MethodName := ⟨RX2, "offOf", "(LDuckWalk$Course;LDuckWalk$Row;I)I"⟩
def RX3 : String := "DuckWalk$Plank"
def TX3 : u_T := fun k => match k with
  | 0 => ("DuckWalk$Plank", "bumps", "[I", true)
  | 1 => ("DuckWalk$Plank", "rub", "I", false)
  | _ => ("DuckWalk$Plank", "there", "Z", false)
def tyX3 : Nat → FieldType := fun k => match k with
  | 0 => .array .int
  | 1 => .int
  | _ => .boolean
theorem nmX3 : ∀ a, a < 3 → ∀ b, b < 3 → a ≠ b → (TX3 a).2.1 ≠ (TX3 b).2.1 := by decide +kernel
theorem tyX3_ok : ∀ k, k < 3 → parseFieldDescriptor (TX3 k).2.2.1 = some (tyX3 k) := by decide +kernel
abbrev cX3_init : ByteArray := prog_5_method_1_code
def yX3_init : MethodName := ⟨RX3, "<init>", "()V"⟩
abbrev cX3_clear : ByteArray := prog_5_method_2_code
def yX3_clear : MethodName := ⟨RX3, "clear", "()V"⟩
abbrev cX3_take : ByteArray := prog_5_method_3_code
def yX3_take : MethodName := ⟨RX3, "take", "(LDuckWalk$Plank;)V"⟩
abbrev cX3_bumpsOf : ByteArray := prog_5_method_4_code
def yX3_bumpsOf : MethodName := ⟨RX3, "bumpsOf", "(I)I"⟩
abbrev cX3_digestOn : ByteArray := prog_5_method_5_code
def yX3_digestOn : MethodName := ⟨RX3, "digestOn", "(J)J"⟩
def RX4 : String := "DuckWalk$Reader"
def TX4 : u_T := fun k => match k with
  | 0 => ("DuckWalk$Reader", "duck", "LDuckWalk$Duck;", true)
  | 1 => ("DuckWalk$Reader", "plank", "LDuckWalk$Plank;", true)
  | 2 => ("DuckWalk$Reader", "bumps", "I", false)
  | _ => ("DuckWalk$Reader", "fault", "I", false)
def tyX4 : Nat → FieldType := fun k => match k with
  | 0 => .object "DuckWalk$Duck"
  | 1 => .object "DuckWalk$Plank"
  | 2 => .int
  | _ => .int
theorem nmX4 : ∀ a, a < 4 → ∀ b, b < 4 → a ≠ b → (TX4 a).2.1 ≠ (TX4 b).2.1 := by decide +kernel
theorem tyX4_ok : ∀ k, k < 4 → parseFieldDescriptor (TX4 k).2.2.1 = some (tyX4 k) := by decide +kernel
abbrev cX4_init : ByteArray := prog_6_method_1_code
def yX4_init : MethodName := ⟨RX4, "<init>", "()V"⟩
abbrev cX4_readDuck : ByteArray := prog_6_method_2_code
def yX4_readDuck : MethodName := ⟨RX4, "readDuck", "(LDuckWalk$Script;)I"⟩
abbrev cX4_readPlank : ByteArray := prog_6_method_3_code
def yX4_readPlank : MethodName := ⟨RX4, "readPlank", "(LDuckWalk$Script;)I"⟩
abbrev cX4_faultAt : ByteArray := prog_6_method_4_code
def yX4_faultAt : MethodName := ⟨RX4, "faultAt", "(I)I"⟩
abbrev cX4_sizeOf : ByteArray := prog_6_method_5_code
def yX4_sizeOf : MethodName := ⟨RX4, "sizeOf", "(I)I"⟩
abbrev cX4_readSize : ByteArray := prog_6_method_6_code
def yX4_readSize : MethodName := ⟨RX4, "readSize", "(LDuckWalk$Script;I)I"⟩
abbrev cX4_readRub : ByteArray := prog_6_method_7_code
def yX4_readRub : MethodName := ⟨RX4, "readRub", "(LDuckWalk$Script;I)I"⟩
abbrev cX4_readBump : ByteArray := prog_6_method_8_code
def yX4_readBump : MethodName := ⟨RX4, "readBump", "(LDuckWalk$Script;I)I"⟩
def RX5 : String := "DuckWalk$Row"
def TX5 : u_T := fun k => match k with
  | 0 => ("DuckWalk$Row", "places", "[I", true)
  | _ => ("DuckWalk$Row", "size", "I", false)
def tyX5 : Nat → FieldType := fun k => match k with
  | 0 => .array .int
  | _ => .int
theorem nmX5 : ∀ a, a < 2 → ∀ b, b < 2 → a ≠ b → (TX5 a).2.1 ≠ (TX5 b).2.1 := by decide +kernel
theorem tyX5_ok : ∀ k, k < 2 → parseFieldDescriptor (TX5 k).2.2.1 = some (tyX5 k) := by decide +kernel
abbrev cX5_init : ByteArray := prog_7_method_1_code
def yX5_init : MethodName := ⟨RX5, "<init>", "()V"⟩
abbrev cX5_isMissing : ByteArray := prog_7_method_2_code
def yX5_isMissing : MethodName := ⟨RX5, "isMissing", "()Z"⟩
abbrev cX5_has : ByteArray := prog_7_method_3_code
def yX5_has : MethodName := ⟨RX5, "has", "(I)Z"⟩
abbrev cX5_hasSpan : ByteArray := prog_7_method_4_code
def yX5_hasSpan : MethodName := ⟨RX5, "hasSpan", "(II)Z"⟩
abbrev cX5_renew : ByteArray := prog_7_method_5_code
def yX5_renew : MethodName := ⟨RX5, "renew", "(I)V"⟩
abbrev cX5_sum : ByteArray := prog_7_method_6_code
def yX5_sum : MethodName := ⟨RX5, "sum", "()J"⟩
abbrev cX5_digestOn : ByteArray := prog_7_method_7_code
def yX5_digestOn : MethodName := ⟨RX5, "digestOn", "(J)J"⟩
def RX6 : String := "DuckWalk$Script"
def TX6 : u_T := fun k => match k with
  | 0 => ("DuckWalk$Script", "bytes", "[B", true)
  | _ => ("DuckWalk$Script", "size", "I", false)
def tyX6 : Nat → FieldType := fun k => match k with
  | 0 => .array .byte
  | _ => .int
theorem nmX6 : ∀ a, a < 2 → ∀ b, b < 2 → a ≠ b → (TX6 a).2.1 ≠ (TX6 b).2.1 := by decide +kernel
theorem tyX6_ok : ∀ k, k < 2 → parseFieldDescriptor (TX6 k).2.2.1 = some (tyX6 k) := by decide +kernel
abbrev cX6_init : ByteArray := prog_8_method_1_code
def yX6_init : MethodName := ⟨RX6, "<init>", "()V"⟩
abbrev cX6_isMissing : ByteArray := prog_8_method_2_code
def yX6_isMissing : MethodName := ⟨RX6, "isMissing", "()Z"⟩
abbrev cX6_has : ByteArray := prog_8_method_3_code
def yX6_has : MethodName := ⟨RX6, "has", "(I)Z"⟩
abbrev cX6_renew : ByteArray := prog_8_method_4_code
def yX6_renew : MethodName := ⟨RX6, "renew", "(I)V"⟩
abbrev cX6_sign : ByteArray := prog_8_method_5_code
def yX6_sign : MethodName := ⟨RX6, "sign", "(I)I"⟩
abbrev cX6_figure : ByteArray := prog_8_method_6_code
def yX6_figure : MethodName := ⟨RX6, "figure", "(I)I"⟩
abbrev cX6_digestOn : ByteArray := prog_8_method_7_code
def yX6_digestOn : MethodName := ⟨RX6, "digestOn", "(J)J"⟩
def RX7 : String := "DuckWalk$Trial"
def TX7 : u_T := fun k => match k with
  | 0 => ("DuckWalk$Trial", "course", "LDuckWalk$Course;", true)
  | 1 => ("DuckWalk$Trial", "kind", "I", false)
  | 2 => ("DuckWalk$Trial", "trip", "I", false)
  | 3 => ("DuckWalk$Trial", "least", "I", false)
  | 4 => ("DuckWalk$Trial", "most", "I", false)
  | 5 => ("DuckWalk$Trial", "paces", "[I", true)
  | 6 => ("DuckWalk$Trial", "seen", "[J", true)
  | _ => ("DuckWalk$Trial", "stamp", "J", false)
def tyX7 : Nat → FieldType := fun k => match k with
  | 0 => .object "DuckWalk$Course"
  | 1 => .int
  | 2 => .int
  | 3 => .int
  | 4 => .int
  | 5 => .array .int
  | 6 => .array .long
  | _ => .long
theorem nmX7 : ∀ a, a < 8 → ∀ b, b < 8 → a ≠ b → (TX7 a).2.1 ≠ (TX7 b).2.1 := by decide +kernel
theorem tyX7_ok : ∀ k, k < 8 → parseFieldDescriptor (TX7 k).2.2.1 = some (tyX7 k) := by decide +kernel
abbrev cX7_init : ByteArray := prog_9_method_1_code
def yX7_init : MethodName := ⟨RX7, "<init>", "()V"⟩
abbrev cX7_find : ByteArray := prog_9_method_2_code
def yX7_find : MethodName := ⟨RX7, "find", "(II)V"⟩
abbrev cX7_closeTrip : ByteArray := prog_9_method_3_code
def yX7_closeTrip : MethodName := ⟨RX7, "closeTrip", "(II)V"⟩
abbrev cX7_isOf : ByteArray := prog_9_method_4_code
def yX7_isOf : MethodName := ⟨RX7, "isOf", "(I)Z"⟩
abbrev cX7_walksWell : ByteArray := prog_9_method_5_code
def yX7_walksWell : MethodName := ⟨RX7, "walksWell", "(II)Z"⟩
abbrev cX7_tells : ByteArray := prog_9_method_6_code
def yX7_tells : MethodName := ⟨RX7, "tells", "(I)I"⟩
abbrev cX7_unlikePaces : ByteArray := prog_9_method_7_code
def yX7_unlikePaces : MethodName := ⟨RX7, "unlikePaces", "(II)I"⟩
abbrev cX7_span : ByteArray := prog_9_method_8_code
def yX7_span : MethodName := ⟨RX7, "span", "(I)I"⟩
def RX8 : String := "DuckWalk"
def TX8 : u_T := fun k => match k with
  | 0 => ("DuckWalk", "rows", "[LDuckWalk$Row;", true)
  | 1 => ("DuckWalk", "scripts", "[LDuckWalk$Script;", true)
  | 2 => ("DuckWalk", "ducks", "[LDuckWalk$Duck;", true)
  | 3 => ("DuckWalk", "planks", "[LDuckWalk$Plank;", true)
  | 4 => ("DuckWalk", "course", "LDuckWalk$Course;", true)
  | 5 => ("DuckWalk", "kept", "[LDuckWalk$Course;", true)
  | 6 => ("DuckWalk", "reader", "LDuckWalk$Reader;", true)
  | 7 => ("DuckWalk", "trial", "LDuckWalk$Trial;", true)
  | 8 => ("DuckWalk", "second", "LDuckWalk$Course;", true)
  | 9 => ("DuckWalk", "guess", "LDuckWalk$Guess;", true)
  | 10 => ("DuckWalk", "findingCounts", "[I", true)
  | 11 => ("DuckWalk", "latestFinding", "I", false)
  | 12 => ("DuckWalk", "latestAsked", "I", false)
  | 13 => ("DuckWalk", "upperNumber", "J", false)
  | _ => ("DuckWalk", "lowerNumber", "J", false)
def tyX8 : Nat → FieldType := fun k => match k with
  | 0 => .array (.object "DuckWalk$Row")
  | 1 => .array (.object "DuckWalk$Script")
  | 2 => .array (.object "DuckWalk$Duck")
  | 3 => .array (.object "DuckWalk$Plank")
  | 4 => .object "DuckWalk$Course"
  | 5 => .array (.object "DuckWalk$Course")
  | 6 => .object "DuckWalk$Reader"
  | 7 => .object "DuckWalk$Trial"
  | 8 => .object "DuckWalk$Course"
  | 9 => .object "DuckWalk$Guess"
  | 10 => .array .int
  | 11 => .int
  | 12 => .int
  | 13 => .long
  | _ => .long
theorem nmX8 : ∀ a, a < 15 → ∀ b, b < 15 → a ≠ b → (TX8 a).2.1 ≠ (TX8 b).2.1 := by decide +kernel
theorem tyX8_ok : ∀ k, k < 15 → parseFieldDescriptor (TX8 k).2.2.1 = some (tyX8 k) := by decide +kernel
abbrev cX8_init : ByteArray := prog_1_method_1_code
def yX8_init : MethodName := ⟨RX8, "<init>", "()V"⟩
abbrev cX8_isOutside : ByteArray := prog_1_method_2_code
def yX8_isOutside : MethodName := ⟨RX8, "isOutside", "(III)Z"⟩
abbrev cX8_noRow : ByteArray := prog_1_method_3_code
def yX8_noRow : MethodName := ⟨RX8, "noRow", "(I)Z"⟩
abbrev cX8_noText : ByteArray := prog_1_method_4_code
def yX8_noText : MethodName := ⟨RX8, "noText", "(I)Z"⟩
abbrev cX8_noWalker : ByteArray := prog_1_method_5_code
def yX8_noWalker : MethodName := ⟨RX8, "noWalker", "(I)Z"⟩
abbrev cX8_noBoard : ByteArray := prog_1_method_6_code
def yX8_noBoard : MethodName := ⟨RX8, "noBoard", "(I)Z"⟩
abbrev cX8_noSlope : ByteArray := prog_1_method_7_code
def yX8_noSlope : MethodName := ⟨RX8, "noSlope", "(I)Z"⟩
abbrev cX8_noPace : ByteArray := prog_1_method_8_code
def yX8_noPace : MethodName := ⟨RX8, "noPace", "(I)Z"⟩
abbrev cX8_noPair : ByteArray := prog_1_method_9_code
def yX8_noPair : MethodName := ⟨RX8, "noPair", "(III)Z"⟩
abbrev cX8_noGoing : ByteArray := prog_1_method_10_code
def yX8_noGoing : MethodName := ⟨RX8, "noGoing", "(IIII)Z"⟩
abbrev cX8_found : ByteArray := prog_1_method_11_code
def yX8_found : MethodName := ⟨RX8, "found", "(I)I"⟩
abbrev cX8_tell : ByteArray := prog_1_method_12_code
def yX8_tell : MethodName := ⟨RX8, "tell", "(I)I"⟩
abbrev cX8_isReady : ByteArray := prog_1_method_13_code
def yX8_isReady : MethodName := ⟨RX8, "isReady", "(II)Z"⟩
abbrev cX8_tellFraction : ByteArray := prog_1_method_14_code
def yX8_tellFraction : MethodName := ⟨RX8, "tellFraction", "(II)V"⟩
abbrev cX8_divisor : ByteArray := prog_1_method_15_code
def yX8_divisor : MethodName := ⟨RX8, "divisor", "(II)I"⟩
abbrev cX8_row : ByteArray := prog_1_method_16_code
def yX8_row : MethodName := ⟨RX8, "row", "(II)I"⟩
abbrev cX8_lay : ByteArray := prog_1_method_17_code
def yX8_lay : MethodName := ⟨RX8, "lay", "(III)I"⟩
abbrev cX8_at : ByteArray := prog_1_method_18_code
def yX8_at : MethodName := ⟨RX8, "at", "(II)I"⟩
abbrev cX8_tear : ByteArray := prog_1_method_19_code
def yX8_tear : MethodName := ⟨RX8, "tear", "(I)I"⟩
abbrev cX8_copy : ByteArray := prog_1_method_20_code
def yX8_copy : MethodName := ⟨RX8, "copy", "(IIIII)I"⟩
abbrev cX8_mean : ByteArray := prog_1_method_21_code
def yX8_mean : MethodName := ⟨RX8, "mean", "(I)I"⟩
abbrev cX8_text : ByteArray := prog_1_method_22_code
def yX8_text : MethodName := ⟨RX8, "text", "(II)I"⟩
abbrev cX8_put : ByteArray := prog_1_method_23_code
def yX8_put : MethodName := ⟨RX8, "put", "(III)I"⟩
abbrev cX8_fault : ByteArray := prog_1_method_24_code
def yX8_fault : MethodName := ⟨RX8, "fault", "(IZ)I"⟩
abbrev cX8_walker : ByteArray := prog_1_method_25_code
def yX8_walker : MethodName := ⟨RX8, "walker", "(II)I"⟩
abbrev cX8_board : ByteArray := prog_1_method_26_code
def yX8_board : MethodName := ⟨RX8, "board", "(II)I"⟩
abbrev cX8_about : ByteArray := prog_1_method_27_code
def yX8_about : MethodName := ⟨RX8, "about", "(II)I"⟩
abbrev cX8_rub : ByteArray := prog_1_method_28_code
def yX8_rub : MethodName := ⟨RX8, "rub", "(II)I"⟩
abbrev cX8_wax : ByteArray := prog_1_method_29_code
def yX8_wax : MethodName := ⟨RX8, "wax", "(III)I"⟩
abbrev cX8_walk : ByteArray := prog_1_method_30_code
def yX8_walk : MethodName := ⟨RX8, "walk", "(IIIII)I"⟩
abbrev cX8_go : ByteArray := prog_1_method_31_code
def yX8_go : MethodName := ⟨RX8, "go", "(I)I"⟩
abbrev cX8_told : ByteArray := prog_1_method_32_code
def yX8_told : MethodName := ⟨RX8, "told", "(I)I"⟩
abbrev cX8_tocks : ByteArray := prog_1_method_33_code
def yX8_tocks : MethodName := ⟨RX8, "tocks", "(II)I"⟩
abbrev cX8_tilt : ByteArray := prog_1_method_34_code
def yX8_tilt : MethodName := ⟨RX8, "tilt", "(I)I"⟩
abbrev cX8_keep : ByteArray := prog_1_method_35_code
def yX8_keep : MethodName := ⟨RX8, "keep", "(I)I"⟩
abbrev cX8_on : ByteArray := prog_1_method_36_code
def yX8_on : MethodName := ⟨RX8, "on", "(I)I"⟩
abbrev cX8_turns : ByteArray := prog_1_method_37_code
def yX8_turns : MethodName := ⟨RX8, "turns", "()I"⟩
abbrev cX8_going : ByteArray := prog_1_method_38_code
def yX8_going : MethodName := ⟨RX8, "going", "(IIII)I"⟩
abbrev cX8_mark : ByteArray := prog_1_method_39_code
def yX8_mark : MethodName := ⟨RX8, "mark", "(IIIII)I"⟩
abbrev cX8_lines : ByteArray := prog_1_method_40_code
def yX8_lines : MethodName := ⟨RX8, "lines", "(IIII)I"⟩
abbrev cX8_begins : ByteArray := prog_1_method_41_code
def yX8_begins : MethodName := ⟨RX8, "begins", "(III)I"⟩
abbrev cX8_mends : ByteArray := prog_1_method_42_code
def yX8_mends : MethodName := ⟨RX8, "mends", "(IIIII)I"⟩
abbrev cX8_wide : ByteArray := prog_1_method_43_code
def yX8_wide : MethodName := ⟨RX8, "wide", "(III)I"⟩
abbrev cX8_mend : ByteArray := prog_1_method_44_code
def yX8_mend : MethodName := ⟨RX8, "mend", "(IIII)I"⟩
abbrev cX8_limp : ByteArray := prog_1_method_45_code
def yX8_limp : MethodName := ⟨RX8, "limp", "(III)I"⟩
abbrev cX8_odds : ByteArray := prog_1_method_46_code
def yX8_odds : MethodName := ⟨RX8, "odds", "(III)I"⟩
abbrev cX8_refusalOfTocks : ByteArray := prog_1_method_47_code
def yX8_refusalOfTocks : MethodName := ⟨RX8, "refusalOfTocks", "(III)I"⟩
abbrev cX8_part : ByteArray := prog_1_method_48_code
def yX8_part : MethodName := ⟨RX8, "part", "(IIII)I"⟩
abbrev cX8_made : ByteArray := prog_1_method_49_code
def yX8_made : MethodName := ⟨RX8, "made", "(IIII)I"⟩
abbrev cX8_would : ByteArray := prog_1_method_50_code
def yX8_would : MethodName := ⟨RX8, "would", "(IIII)I"⟩
abbrev cX8_yard : ByteArray := prog_1_method_51_code
def yX8_yard : MethodName := ⟨RX8, "yard", "(IIIII)I"⟩
abbrev cX8_push : ByteArray := prog_1_method_52_code
def yX8_push : MethodName := ⟨RX8, "push", "(III)I"⟩
abbrev cX8_leastPush : ByteArray := prog_1_method_53_code
def yX8_leastPush : MethodName := ⟨RX8, "leastPush", "(LDuckWalk$Duck;IZ)I"⟩
abbrev cX8_bears : ByteArray := prog_1_method_54_code
def yX8_bears : MethodName := ⟨RX8, "bears", "(IIIII)I"⟩
abbrev cX8_bearsBump : ByteArray := prog_1_method_55_code
def yX8_bearsBump : MethodName := ⟨RX8, "bearsBump", "(IIII)Z"⟩
abbrev cX8_meets : ByteArray := prog_1_method_56_code
def yX8_meets : MethodName := ⟨RX8, "meets", "(IIIII)I"⟩
abbrev cX8_asked : ByteArray := prog_1_method_57_code
def yX8_asked : MethodName := ⟨RX8, "asked", "()I"⟩
abbrev cX8_upper : ByteArray := prog_1_method_58_code
def yX8_upper : MethodName := ⟨RX8, "upper", "()J"⟩
abbrev cX8_lower : ByteArray := prog_1_method_59_code
def yX8_lower : MethodName := ⟨RX8, "lower", "()J"⟩
abbrev cX8_count : ByteArray := prog_1_method_60_code
def yX8_count : MethodName := ⟨RX8, "count", "(I)I"⟩
abbrev cX8_countOf : ByteArray := prog_1_method_61_code
def yX8_countOf : MethodName := ⟨RX8, "countOf", "(I)I"⟩
abbrev cX8_countDucks : ByteArray := prog_1_method_62_code
def yX8_countDucks : MethodName := ⟨RX8, "countDucks", "(Z)I"⟩
abbrev cX8_countPlanks : ByteArray := prog_1_method_63_code
def yX8_countPlanks : MethodName := ⟨RX8, "countPlanks", "()I"⟩
abbrev cX8_countKept : ByteArray := prog_1_method_64_code
def yX8_countKept : MethodName := ⟨RX8, "countKept", "()I"⟩
abbrev cX8_countRows : ByteArray := prog_1_method_65_code
def yX8_countRows : MethodName := ⟨RX8, "countRows", "()I"⟩
abbrev cX8_countScripts : ByteArray := prog_1_method_66_code
def yX8_countScripts : MethodName := ⟨RX8, "countScripts", "()I"⟩
abbrev cX8_finding : ByteArray := prog_1_method_67_code
def yX8_finding : MethodName := ⟨RX8, "finding", "()I"⟩
abbrev cX8_findings : ByteArray := prog_1_method_68_code
def yX8_findings : MethodName := ⟨RX8, "findings", "(I)I"⟩
abbrev cX8_digest : ByteArray := prog_1_method_69_code
def yX8_digest : MethodName := ⟨RX8, "digest", "()J"⟩
def RX9 : String := "DuckWalkModel"
def TX9 : u_T := fun k => match k with
  | 0 => ("DuckWalkModel", "latest", "I", false)
  | 1 => ("DuckWalkModel", "came", "[I", true)
  | 2 => ("DuckWalkModel", "asked", "I", false)
  | 3 => ("DuckWalkModel", "upper", "J", false)
  | 4 => ("DuckWalkModel", "lower", "J", false)
  | 5 => ("DuckWalkModel", "sizes", "[I", true)
  | 6 => ("DuckWalkModel", "rows", "[I", true)
  | 7 => ("DuckWalkModel", "copied", "[I", true)
  | 8 => ("DuckWalkModel", "textSizes", "[I", true)
  | 9 => ("DuckWalkModel", "bytes", "[B", true)
  | 10 => ("DuckWalkModel", "isWalker", "[Z", true)
  | 11 => ("DuckWalkModel", "walkers", "[I", true)
  | 12 => ("DuckWalkModel", "isBoard", "[Z", true)
  | 13 => ("DuckWalkModel", "boards", "[I", true)
  | 14 => ("DuckWalkModel", "readAt", "I", false)
  | 15 => ("DuckWalkModel", "readNumber", "I", false)
  | 16 => ("DuckWalkModel", "readMany", "I", false)
  | 17 => ("DuckWalkModel", "readWalker", "[I", true)
  | 18 => ("DuckWalkModel", "readBoard", "[I", true)
  | 19 => ("DuckWalkModel", "size", "[I", true)
  | 20 => ("DuckWalkModel", "grip", "I", false)
  | 21 => ("DuckWalkModel", "slope0", "I", false)
  | 22 => ("DuckWalkModel", "pushes", "[I", true)
  | 23 => ("DuckWalkModel", "bumpAt", "I", false)
  | 24 => ("DuckWalkModel", "bumpBy", "I", false)
  | 25 => ("DuckWalkModel", "pace", "I", false)
  | 26 => ("DuckWalkModel", "foot", "I", false)
  | 27 => ("DuckWalkModel", "is", "I", false)
  | 28 => ("DuckWalkModel", "lost", "I", false)
  | 29 => ("DuckWalkModel", "went", "I", false)
  | 30 => ("DuckWalkModel", "isWalk", "[Z", true)
  | 31 => ("DuckWalkModel", "walks", "[I", true)
  | 32 => ("DuckWalkModel", "when", "[I", true)
  | 33 => ("DuckWalkModel", "paces", "[I", true)
  | 34 => ("DuckWalkModel", "ended", "I", false)
  | 35 => ("DuckWalkModel", "round", "I", false)
  | 36 => ("DuckWalkModel", "cycleLow", "I", false)
  | 37 => ("DuckWalkModel", "cycleHigh", "I", false)
  | 38 => ("DuckWalkModel", "seen", "[Z", true)
  | 39 => ("DuckWalkModel", "otherPaces", "[I", true)
  | _ => ("DuckWalkModel", "hash", "J", false)
def tyX9 : Nat → FieldType := fun k => match k with
  | 0 => .int
  | 1 => .array .int
  | 2 => .int
  | 3 => .long
  | 4 => .long
  | 5 => .array .int
  | 6 => .array .int
  | 7 => .array .int
  | 8 => .array .int
  | 9 => .array .byte
  | 10 => .array .boolean
  | 11 => .array .int
  | 12 => .array .boolean
  | 13 => .array .int
  | 14 => .int
  | 15 => .int
  | 16 => .int
  | 17 => .array .int
  | 18 => .array .int
  | 19 => .array .int
  | 20 => .int
  | 21 => .int
  | 22 => .array .int
  | 23 => .int
  | 24 => .int
  | 25 => .int
  | 26 => .int
  | 27 => .int
  | 28 => .int
  | 29 => .int
  | 30 => .array .boolean
  | 31 => .array .int
  | 32 => .array .int
  | 33 => .array .int
  | 34 => .int
  | 35 => .int
  | 36 => .int
  | 37 => .int
  | 38 => .array .boolean
  | 39 => .array .int
  | _ => .long
theorem nmX9 : ∀ a, a < 41 → ∀ b, b < 41 → a ≠ b → (TX9 a).2.1 ≠ (TX9 b).2.1 := by decide +kernel
theorem tyX9_ok : ∀ k, k < 41 → parseFieldDescriptor (TX9 k).2.2.1 = some (tyX9 k) := by decide +kernel
abbrev cX9_init : ByteArray := prog_11_method_1_code
def yX9_init : MethodName := ⟨RX9, "<init>", "()V"⟩
abbrev cX9_in : ByteArray := prog_11_method_2_code
def yX9_in : MethodName := ⟨RX9, "in", "(III)Z"⟩
abbrev cX9_lesser : ByteArray := prog_11_method_3_code
def yX9_lesser : MethodName := ⟨RX9, "lesser", "(II)I"⟩
abbrev cX9_greater : ByteArray := prog_11_method_4_code
def yX9_greater : MethodName := ⟨RX9, "greater", "(II)I"⟩
abbrev cX9_notes : ByteArray := prog_11_method_5_code
def yX9_notes : MethodName := ⟨RX9, "notes", "(I)I"⟩
abbrev cX9_finding : ByteArray := prog_11_method_6_code
def yX9_finding : MethodName := ⟨RX9, "finding", "()I"⟩
abbrev cX9_findings : ByteArray := prog_11_method_7_code
def yX9_findings : MethodName := ⟨RX9, "findings", "(I)I"⟩
abbrev cX9_tells : ByteArray := prog_11_method_8_code
def yX9_tells : MethodName := ⟨RX9, "tells", "(II)I"⟩
abbrev cX9_asked : ByteArray := prog_11_method_9_code
def yX9_asked : MethodName := ⟨RX9, "asked", "()I"⟩
abbrev cX9_fraction : ByteArray := prog_11_method_10_code
def yX9_fraction : MethodName := ⟨RX9, "fraction", "(JJI)I"⟩
abbrev cX9_upper : ByteArray := prog_11_method_11_code
def yX9_upper : MethodName := ⟨RX9, "upper", "()J"⟩
abbrev cX9_lower : ByteArray := prog_11_method_12_code
def yX9_lower : MethodName := ⟨RX9, "lower", "()J"⟩
abbrev cX9_isRow : ByteArray := prog_11_method_13_code
def yX9_isRow : MethodName := ⟨RX9, "isRow", "(I)Z"⟩
abbrev cX9_rowAt : ByteArray := prog_11_method_14_code
def yX9_rowAt : MethodName := ⟨RX9, "rowAt", "(II)I"⟩
abbrev cX9_row : ByteArray := prog_11_method_15_code
def yX9_row : MethodName := ⟨RX9, "row", "(II)I"⟩
abbrev cX9_lay : ByteArray := prog_11_method_16_code
def yX9_lay : MethodName := ⟨RX9, "lay", "(III)I"⟩
abbrev cX9_at : ByteArray := prog_11_method_17_code
def yX9_at : MethodName := ⟨RX9, "at", "(II)I"⟩
abbrev cX9_tear : ByteArray := prog_11_method_18_code
def yX9_tear : MethodName := ⟨RX9, "tear", "(I)I"⟩
abbrev cX9_copy : ByteArray := prog_11_method_19_code
def yX9_copy : MethodName := ⟨RX9, "copy", "(IIIII)I"⟩
abbrev cX9_mean : ByteArray := prog_11_method_20_code
def yX9_mean : MethodName := ⟨RX9, "mean", "(I)I"⟩
abbrev cX9_isText : ByteArray := prog_11_method_21_code
def yX9_isText : MethodName := ⟨RX9, "isText", "(I)Z"⟩
abbrev cX9_text : ByteArray := prog_11_method_22_code
def yX9_text : MethodName := ⟨RX9, "text", "(II)I"⟩
abbrev cX9_put : ByteArray := prog_11_method_23_code
def yX9_put : MethodName := ⟨RX9, "put", "(III)I"⟩
abbrev cX9_byteAt : ByteArray := prog_11_method_24_code
def yX9_byteAt : MethodName := ⟨RX9, "byteAt", "(II)I"⟩
abbrev cX9_figure : ByteArray := prog_11_method_25_code
def yX9_figure : MethodName := ⟨RX9, "figure", "(II)Z"⟩
abbrev cX9_itemOf : ByteArray := prog_11_method_26_code
def yX9_itemOf : MethodName := ⟨RX9, "itemOf", "(I)I"⟩
abbrev cX9_readsSize : ByteArray := prog_11_method_27_code
def yX9_readsSize : MethodName := ⟨RX9, "readsSize", "(I)Z"⟩
abbrev cX9_walkerFault : ByteArray := prog_11_method_28_code
def yX9_walkerFault : MethodName := ⟨RX9, "walkerFault", "(I)I"⟩
abbrev cX9_readsBoard : ByteArray := prog_11_method_29_code
def yX9_readsBoard : MethodName := ⟨RX9, "readsBoard", "(I)Z"⟩
abbrev cX9_boardFault : ByteArray := prog_11_method_30_code
def yX9_boardFault : MethodName := ⟨RX9, "boardFault", "(I)I"⟩
abbrev cX9_fault : ByteArray := prog_11_method_31_code
def yX9_fault : MethodName := ⟨RX9, "fault", "(IZ)I"⟩
abbrev cX9_isPlace : ByteArray := prog_11_method_32_code
def yX9_isPlace : MethodName := ⟨RX9, "isPlace", "(I)Z"⟩
abbrev cX9_bits : ByteArray := prog_11_method_33_code
def yX9_bits : MethodName := ⟨RX9, "bits", "(I)I"⟩
abbrev cX9_walker : ByteArray := prog_11_method_34_code
def yX9_walker : MethodName := ⟨RX9, "walker", "(II)I"⟩
abbrev cX9_board : ByteArray := prog_11_method_35_code
def yX9_board : MethodName := ⟨RX9, "board", "(II)I"⟩
abbrev cX9_about : ByteArray := prog_11_method_36_code
def yX9_about : MethodName := ⟨RX9, "about", "(II)I"⟩
abbrev cX9_rub : ByteArray := prog_11_method_37_code
def yX9_rub : MethodName := ⟨RX9, "rub", "(II)I"⟩
abbrev cX9_wax : ByteArray := prog_11_method_38_code
def yX9_wax : MethodName := ⟨RX9, "wax", "(III)I"⟩
abbrev cX9_looksAt : ByteArray := prog_11_method_39_code
def yX9_looksAt : MethodName := ⟨RX9, "looksAt", "(III)V"⟩
abbrev cX9_starts : ByteArray := prog_11_method_40_code
def yX9_starts : MethodName := ⟨RX9, "starts", "(II)V"⟩
abbrev cX9_gain : ByteArray := prog_11_method_41_code
def yX9_gain : MethodName := ⟨RX9, "gain", "()I"⟩
abbrev cX9_fallsAt : ByteArray := prog_11_method_42_code
def yX9_fallsAt : MethodName := ⟨RX9, "fallsAt", "()I"⟩
abbrev cX9_step : ByteArray := prog_11_method_43_code
def yX9_step : MethodName := ⟨RX9, "step", "(I)V"⟩
abbrev cX9_steps : ByteArray := prog_11_method_44_code
def yX9_steps : MethodName := ⟨RX9, "steps", "(I)V"⟩
abbrev cX9_copyWalk : ByteArray := prog_11_method_45_code
def yX9_copyWalk : MethodName := ⟨RX9, "copyWalk", "(II)V"⟩
abbrev cX9_layWalk : ByteArray := prog_11_method_46_code
def yX9_layWalk : MethodName := ⟨RX9, "layWalk", "()V"⟩
abbrev cX9_storeWalk : ByteArray := prog_11_method_47_code
def yX9_storeWalk : MethodName := ⟨RX9, "storeWalk", "()V"⟩
abbrev cX9_walk : ByteArray := prog_11_method_48_code
def yX9_walk : MethodName := ⟨RX9, "walk", "(IIIII)I"⟩
abbrev cX9_walksOn : ByteArray := prog_11_method_49_code
def yX9_walksOn : MethodName := ⟨RX9, "walksOn", "()Z"⟩
abbrev cX9_go : ByteArray := prog_11_method_50_code
def yX9_go : MethodName := ⟨RX9, "go", "(I)I"⟩
abbrev cX9_walkTells : ByteArray := prog_11_method_51_code
def yX9_walkTells : MethodName := ⟨RX9, "walkTells", "(I)I"⟩
abbrev cX9_told : ByteArray := prog_11_method_52_code
def yX9_told : MethodName := ⟨RX9, "told", "(I)I"⟩
abbrev cX9_tocks : ByteArray := prog_11_method_53_code
def yX9_tocks : MethodName := ⟨RX9, "tocks", "(II)I"⟩
abbrev cX9_tilt : ByteArray := prog_11_method_54_code
def yX9_tilt : MethodName := ⟨RX9, "tilt", "(I)I"⟩
abbrev cX9_keep : ByteArray := prog_11_method_55_code
def yX9_keep : MethodName := ⟨RX9, "keep", "(I)I"⟩
abbrev cX9_on : ByteArray := prog_11_method_56_code
def yX9_on : MethodName := ⟨RX9, "on", "(I)I"⟩
abbrev cX9_turns : ByteArray := prog_11_method_57_code
def yX9_turns : MethodName := ⟨RX9, "turns", "()I"⟩
abbrev cX9_goingOf : ByteArray := prog_11_method_58_code
def yX9_goingOf : MethodName := ⟨RX9, "goingOf", "(I)I"⟩
abbrev cX9_isOf : ByteArray := prog_11_method_59_code
def yX9_isOf : MethodName := ⟨RX9, "isOf", "(II)Z"⟩
abbrev cX9_walksWell : ByteArray := prog_11_method_60_code
def yX9_walksWell : MethodName := ⟨RX9, "walksWell", "(I)Z"⟩
abbrev cX9_areGood : ByteArray := prog_11_method_61_code
def yX9_areGood : MethodName := ⟨RX9, "areGood", "(IIII)Z"⟩
abbrev cX9_need : ByteArray := prog_11_method_62_code
def yX9_need : MethodName := ⟨RX9, "need", "(ZIIII)I"⟩
abbrev cX9_going : ByteArray := prog_11_method_63_code
def yX9_going : MethodName := ⟨RX9, "going", "(IIII)I"⟩
abbrev cX9_unlikePaces : ByteArray := prog_11_method_64_code
def yX9_unlikePaces : MethodName := ⟨RX9, "unlikePaces", "(I)I"⟩
abbrev cX9_mark : ByteArray := prog_11_method_65_code
def yX9_mark : MethodName := ⟨RX9, "mark", "(IIIII)I"⟩
abbrev cX9_lines : ByteArray := prog_11_method_66_code
def yX9_lines : MethodName := ⟨RX9, "lines", "(IIII)I"⟩
abbrev cX9_begins : ByteArray := prog_11_method_67_code
def yX9_begins : MethodName := ⟨RX9, "begins", "(III)I"⟩
abbrev cX9_mends : ByteArray := prog_11_method_68_code
def yX9_mends : MethodName := ⟨RX9, "mends", "(IIIII)I"⟩
abbrev cX9_span : ByteArray := prog_11_method_69_code
def yX9_span : MethodName := ⟨RX9, "span", "(I)I"⟩
abbrev cX9_wide : ByteArray := prog_11_method_70_code
def yX9_wide : MethodName := ⟨RX9, "wide", "(III)I"⟩
abbrev cX9_mend : ByteArray := prog_11_method_71_code
def yX9_mend : MethodName := ⟨RX9, "mend", "(IIII)I"⟩
abbrev cX9_needTocks : ByteArray := prog_11_method_72_code
def yX9_needTocks : MethodName := ⟨RX9, "needTocks", "(III)I"⟩
abbrev cX9_offTocks : ByteArray := prog_11_method_73_code
def yX9_offTocks : MethodName := ⟨RX9, "offTocks", "(III)I"⟩
abbrev cX9_limp : ByteArray := prog_11_method_74_code
def yX9_limp : MethodName := ⟨RX9, "limp", "(III)I"⟩
abbrev cX9_odds : ByteArray := prog_11_method_75_code
def yX9_odds : MethodName := ⟨RX9, "odds", "(III)I"⟩
abbrev cX9_part : ByteArray := prog_11_method_76_code
def yX9_part : MethodName := ⟨RX9, "part", "(IIII)I"⟩
abbrev cX9_made : ByteArray := prog_11_method_77_code
def yX9_made : MethodName := ⟨RX9, "made", "(IIII)I"⟩
abbrev cX9_would : ByteArray := prog_11_method_78_code
def yX9_would : MethodName := ⟨RX9, "would", "(IIII)I"⟩
abbrev cX9_yard : ByteArray := prog_11_method_79_code
def yX9_yard : MethodName := ⟨RX9, "yard", "(IIIII)I"⟩
abbrev cX9_push : ByteArray := prog_11_method_80_code
def yX9_push : MethodName := ⟨RX9, "push", "(III)I"⟩
abbrev cX9_bears : ByteArray := prog_11_method_81_code
def yX9_bears : MethodName := ⟨RX9, "bears", "(IIIII)I"⟩
abbrev cX9_meets : ByteArray := prog_11_method_82_code
def yX9_meets : MethodName := ⟨RX9, "meets", "(IIIII)I"⟩
abbrev cX9_counted : ByteArray := prog_11_method_83_code
def yX9_counted : MethodName := ⟨RX9, "counted", "(I)I"⟩
abbrev cX9_count : ByteArray := prog_11_method_84_code
def yX9_count : MethodName := ⟨RX9, "count", "(I)I"⟩
abbrev cX9_mix : ByteArray := prog_11_method_85_code
def yX9_mix : MethodName := ⟨RX9, "mix", "(J)V"⟩
abbrev cX9_mixBooks : ByteArray := prog_11_method_86_code
def yX9_mixBooks : MethodName := ⟨RX9, "mixBooks", "()V"⟩
abbrev cX9_digest : ByteArray := prog_11_method_87_code
def yX9_digest : MethodName := ⟨RX9, "digest", "()J"⟩
def RJ6 : String := "java/lang/Integer"
abbrev cJ6_bitCount_0f7a4 : ByteArray := prog_12_method_49_code
def yJ6_bitCount_0f7a4 : MethodName := ⟨RJ6, "bitCount", "(I)I"⟩
def RJ13 : String := "java/lang/Long"
abbrev cJ13_bitCount_95d88 : ByteArray := prog_13_method_50_code
def yJ13_bitCount_95d88 : MethodName := ⟨RJ13, "bitCount", "(J)I"⟩
def RJ9 : String := "java/lang/Math"
abbrev cJ9_floorMod_7cf53 : ByteArray := prog_14_method_50_code
def yJ9_floorMod_7cf53 : MethodName := ⟨RJ9, "floorMod", "(II)I"⟩
abbrev cJ9_abs_0f7a4 : ByteArray := prog_14_method_59_code
def yJ9_abs_0f7a4 : MethodName := ⟨RJ9, "abs", "(I)I"⟩
abbrev cJ9_max_7cf53 : ByteArray := prog_14_method_65_code
def yJ9_max_7cf53 : MethodName := ⟨RJ9, "max", "(II)I"⟩
abbrev cJ9_min_7cf53 : ByteArray := prog_14_method_69_code
def yJ9_min_7cf53 : MethodName := ⟨RJ9, "min", "(II)I"⟩
def RJ10 : String := "java/lang/System"
def RJ7 : String := "java/util/Arrays"
abbrev cJ7_rangeCheck_23922 : ByteArray := prog_16_method_30_code
def yJ7_rangeCheck_23922 : MethodName := ⟨RJ7, "rangeCheck", "(III)V"⟩
abbrev cJ7_fill_53178 : ByteArray := prog_16_method_103_code
def yJ7_fill_53178 : MethodName := ⟨RJ7, "fill", "([II)V"⟩
abbrev cJ7_fill_fda19 : ByteArray := prog_16_method_104_code
def yJ7_fill_fda19 : MethodName := ⟨RJ7, "fill", "([IIII)V"⟩
abbrev cJ7_fill_031fb : ByteArray := prog_16_method_109_code
def yJ7_fill_031fb : MethodName := ⟨RJ7, "fill", "([BB)V"⟩
def RL : String := "DuckWalkLaw"
abbrev cL_law : ByteArray := code
def yL_law : MethodName := ⟨RL, "law", "([I)Z"⟩
abbrev vwCl : List vw_C := [(RX0, TX0, 10), (RX1, TX1, 3), (RX2, TX2, 4), (RX3, TX3, 3), (RX4, TX4, 4), (RX5, TX5, 2), (RX6, TX6, 2), (RX7, TX7, 8), (RX8, TX8, 15), (RX9, TX9, 41)]
theorem dk_tb1 : ∀ w ∈ tables_1_1, w ∈ lw_tbl := fun w h => List.mem_append_right _ (List.mem_append_left _ h)
theorem dk_tb2 : ∀ w ∈ tables_1_2, w ∈ lw_tbl := fun w h => List.mem_append_right _ (List.mem_append_right _ (List.mem_append_left _ h))
theorem dk_tb3 : ∀ w ∈ tables_1_3, w ∈ lw_tbl := fun w h => List.mem_append_right _ (List.mem_append_right _ (List.mem_append_right _ (List.mem_append_left _ h)))
theorem dk_tb4 : ∀ w ∈ tables_1_4, w ∈ lw_tbl := fun w h => List.mem_append_right _ (List.mem_append_right _ (List.mem_append_right _ (List.mem_append_right _ (List.mem_append_left _ h))))
theorem dk_tb5 : ∀ w ∈ tables_1_5, w ∈ lw_tbl := fun w h => List.mem_append_right _ (List.mem_append_right _ (List.mem_append_right _ (List.mem_append_right _ (List.mem_append_right _ (List.mem_append_left _ h)))))
theorem dk_tb6 : ∀ w ∈ tables_1_6, w ∈ lw_tbl := fun w h => List.mem_append_right _ (List.mem_append_right _ (List.mem_append_right _ (List.mem_append_right _ (List.mem_append_right _ (List.mem_append_right _ h)))))
def dk_tb : List Cond := lw_tbl.filter goodWord
theorem dk_m1 {w : Cond} (i : Nat) (h : tables_1_1[i]? = some w) (hg : goodWord w = true) : w ∈ dk_tb := List.mem_filter.mpr ⟨dk_tb1 _ (List.mem_of_getElem? h), hg⟩
theorem dk_m2 {w : Cond} (i : Nat) (h : tables_1_2[i]? = some w) (hg : goodWord w = true) : w ∈ dk_tb := List.mem_filter.mpr ⟨dk_tb2 _ (List.mem_of_getElem? h), hg⟩
theorem dk_m3 {w : Cond} (i : Nat) (h : tables_1_3[i]? = some w) (hg : goodWord w = true) : w ∈ dk_tb := List.mem_filter.mpr ⟨dk_tb3 _ (List.mem_of_getElem? h), hg⟩
theorem dk_m4 {w : Cond} (i : Nat) (h : tables_1_4[i]? = some w) (hg : goodWord w = true) : w ∈ dk_tb := List.mem_filter.mpr ⟨dk_tb4 _ (List.mem_of_getElem? h), hg⟩
theorem dk_m5 {w : Cond} (i : Nat) (h : tables_1_5[i]? = some w) (hg : goodWord w = true) : w ∈ dk_tb := List.mem_filter.mpr ⟨dk_tb5 _ (List.mem_of_getElem? h), hg⟩
theorem dk_m6 {w : Cond} (i : Nat) (h : tables_1_6[i]? = some w) (hg : goodWord w = true) : w ∈ dk_tb := List.mem_filter.mpr ⟨dk_tb6 _ (List.mem_of_getElem? h), hg⟩
theorem dk_mp {w : Cond} (i : Nat) (h : (k2_sels lw_privs)[i]? = some w) (hg : goodWord w = true) : w ∈ dk_tb := List.mem_filter.mpr ⟨List.mem_append_left _ (List.mem_of_getElem? h), hg⟩
theorem dk_tb_in {w : Cond} (h : w ∈ dk_tb) : w ∈ lw_tbl := (List.mem_filter.mp h).1
theorem dk_good {y : MethodName} {cc : ByteArray} {n : Nat} {r : Option FieldType} (h : Cond.code y cc n r ∈ dk_tb) : GoodIn dk_tb (Cond.code y cc n r :: dk_tb) := fun w hw => (List.mem_cons.mp hw).elim (fun e => by subst e; exact ⟨h, good_of_word (List.mem_filter.mp h).2⟩) (fun h2 => ⟨h2, good_of_word (List.mem_filter.mp h2).2⟩)
end
section
theorem dX0_init_0 : decode cX0_init 0 = .ok (.aload_n 0, 1) := by decide +kernel
theorem dX0_init_1 : decode cX0_init 1 = .ok (.invokespecial 3, 3) := by decide +kernel
theorem dX0_init_4 : decode cX0_init 4 = .ok (.aload_n 0, 1) := by decide +kernel
theorem dX0_init_5 : decode cX0_init 5 = .ok (.new 9, 3) := by decide +kernel
theorem dX0_init_8 : decode cX0_init 8 = .ok (.dup, 1) := by decide +kernel
theorem dX0_init_9 : decode cX0_init 9 = .ok (.invokespecial 11, 3) := by decide +kernel
theorem dX0_init_12 : decode cX0_init 12 = .ok (.putfield 12, 3) := by decide +kernel
theorem dX0_init_15 : decode cX0_init 15 = .ok (.aload_n 0, 1) := by decide +kernel
theorem dX0_init_16 : decode cX0_init 16 = .ok (.new 18, 3) := by decide +kernel
theorem dX0_init_19 : decode cX0_init 19 = .ok (.dup, 1) := by decide +kernel
theorem dX0_init_20 : decode cX0_init 20 = .ok (.invokespecial 20, 3) := by decide +kernel
theorem dX0_init_23 : decode cX0_init 23 = .ok (.putfield 21, 3) := by decide +kernel
theorem dX0_init_26 : decode cX0_init 26 = .ok (.aload_n 0, 1) := by decide +kernel
theorem dX0_init_27 : decode cX0_init 27 = .ok (.iconst 0, 1) := by decide +kernel
theorem dX0_init_28 : decode cX0_init 28 = .ok (.putfield 25, 3) := by decide +kernel
theorem dX0_init_31 : decode cX0_init 31 = .ok (.aload_n 0, 1) := by decide +kernel
theorem dX0_init_32 : decode cX0_init 32 = .ok (.iconst 0, 1) := by decide +kernel
theorem dX0_init_33 : decode cX0_init 33 = .ok (.putfield 29, 3) := by decide +kernel
theorem dX0_init_36 : decode cX0_init 36 = .ok (.aload_n 0, 1) := by decide +kernel
theorem dX0_init_37 : decode cX0_init 37 = .ok (.iconst 0, 1) := by decide +kernel
theorem dX0_init_38 : decode cX0_init 38 = .ok (.putfield 33, 3) := by decide +kernel
theorem dX0_init_41 : decode cX0_init 41 = .ok (.aload_n 0, 1) := by decide +kernel
theorem dX0_init_42 : decode cX0_init 42 = .ok (.iconst 0, 1) := by decide +kernel
theorem dX0_init_43 : decode cX0_init 43 = .ok (.putfield 36, 3) := by decide +kernel
theorem dX0_init_46 : decode cX0_init 46 = .ok (.aload_n 0, 1) := by decide +kernel
theorem dX0_init_47 : decode cX0_init 47 = .ok (.iconst 0, 1) := by decide +kernel
theorem dX0_init_48 : decode cX0_init 48 = .ok (.putfield 39, 3) := by decide +kernel
theorem dX0_init_51 : decode cX0_init 51 = .ok (.aload_n 0, 1) := by decide +kernel
theorem dX0_init_52 : decode cX0_init 52 = .ok (.iconst 0, 1) := by decide +kernel
theorem dX0_init_53 : decode cX0_init 53 = .ok (.putfield 42, 3) := by decide +kernel
theorem dX0_init_56 : decode cX0_init 56 = .ok (.aload_n 0, 1) := by decide +kernel
theorem dX0_init_57 : decode cX0_init 57 = .ok (.iconst 0, 1) := by decide +kernel
theorem dX0_init_58 : decode cX0_init 58 = .ok (.putfield 45, 3) := by decide +kernel
theorem dX0_init_61 : decode cX0_init 61 = .ok (.aload_n 0, 1) := by decide +kernel
theorem dX0_init_62 : decode cX0_init 62 = .ok (.iconst 0, 1) := by decide +kernel
theorem dX0_init_63 : decode cX0_init 63 = .ok (.putfield 48, 3) := by decide +kernel
theorem dX0_init_66 : decode cX0_init 66 = .ok (.return_, 1) := by decide +kernel
theorem dX0_begin_0 : decode cX0_begin 0 = .ok (.aload_n 0, 1) := by decide +kernel
theorem dX0_begin_1 : decode cX0_begin 1 = .ok (.iload_n 1, 1) := by decide +kernel
theorem dX0_begin_2 : decode cX0_begin 2 = .ok (.putfield 29, 3) := by decide +kernel
theorem dX0_begin_5 : decode cX0_begin 5 = .ok (.aload_n 0, 1) := by decide +kernel
theorem dX0_begin_6 : decode cX0_begin 6 = .ok (.iload_n 2, 1) := by decide +kernel
theorem dX0_begin_7 : decode cX0_begin 7 = .ok (.putfield 33, 3) := by decide +kernel
theorem dX0_begin_10 : decode cX0_begin 10 = .ok (.aload_n 0, 1) := by decide +kernel
theorem dX0_begin_11 : decode cX0_begin 11 = .ok (.iload_n 3, 1) := by decide +kernel
theorem dX0_begin_12 : decode cX0_begin 12 = .ok (.putfield 36, 3) := by decide +kernel
theorem dX0_begin_15 : decode cX0_begin 15 = .ok (.aload_n 0, 1) := by decide +kernel
theorem dX0_begin_16 : decode cX0_begin 16 = .ok (.iconst 0, 1) := by decide +kernel
theorem dX0_begin_17 : decode cX0_begin 17 = .ok (.putfield 39, 3) := by decide +kernel
theorem dX0_begin_20 : decode cX0_begin 20 = .ok (.aload_n 0, 1) := by decide +kernel
theorem dX0_begin_21 : decode cX0_begin 21 = .ok (.iconst 0, 1) := by decide +kernel
theorem dX0_begin_22 : decode cX0_begin 22 = .ok (.putfield 42, 3) := by decide +kernel
theorem dX0_begin_25 : decode cX0_begin 25 = .ok (.aload_n 0, 1) := by decide +kernel
theorem dX0_begin_26 : decode cX0_begin 26 = .ok (.iconst 0, 1) := by decide +kernel
theorem dX0_begin_27 : decode cX0_begin 27 = .ok (.putfield 45, 3) := by decide +kernel
theorem dX0_begin_30 : decode cX0_begin 30 = .ok (.aload_n 0, 1) := by decide +kernel
theorem dX0_begin_31 : decode cX0_begin 31 = .ok (.iconst 0, 1) := by decide +kernel
theorem dX0_begin_32 : decode cX0_begin 32 = .ok (.putfield 48, 3) := by decide +kernel
theorem dX0_begin_35 : decode cX0_begin 35 = .ok (.return_, 1) := by decide +kernel
theorem dX0_take_0 : decode cX0_take 0 = .ok (.aload_n 0, 1) := by decide +kernel
theorem dX0_take_1 : decode cX0_take 1 = .ok (.getfield 12, 3) := by decide +kernel
theorem dX0_take_4 : decode cX0_take 4 = .ok (.aload_n 1, 1) := by decide +kernel
theorem dX0_take_5 : decode cX0_take 5 = .ok (.getfield 12, 3) := by decide +kernel
theorem dX0_take_8 : decode cX0_take 8 = .ok (.invokevirtual 51, 3) := by decide +kernel
theorem dX0_take_11 : decode cX0_take 11 = .ok (.aload_n 0, 1) := by decide +kernel
theorem dX0_take_12 : decode cX0_take 12 = .ok (.getfield 21, 3) := by decide +kernel
theorem dX0_take_15 : decode cX0_take 15 = .ok (.aload_n 1, 1) := by decide +kernel
theorem dX0_take_16 : decode cX0_take 16 = .ok (.getfield 21, 3) := by decide +kernel
theorem dX0_take_19 : decode cX0_take 19 = .ok (.invokevirtual 55, 3) := by decide +kernel
theorem dX0_take_22 : decode cX0_take 22 = .ok (.aload_n 0, 1) := by decide +kernel
theorem dX0_take_23 : decode cX0_take 23 = .ok (.aload_n 1, 1) := by decide +kernel
theorem dX0_take_24 : decode cX0_take 24 = .ok (.getfield 25, 3) := by decide +kernel
theorem dX0_take_27 : decode cX0_take 27 = .ok (.putfield 25, 3) := by decide +kernel
theorem dX0_take_30 : decode cX0_take 30 = .ok (.aload_n 0, 1) := by decide +kernel
theorem dX0_take_31 : decode cX0_take 31 = .ok (.aload_n 1, 1) := by decide +kernel
theorem dX0_take_32 : decode cX0_take 32 = .ok (.getfield 29, 3) := by decide +kernel
theorem dX0_take_35 : decode cX0_take 35 = .ok (.putfield 29, 3) := by decide +kernel
theorem dX0_take_38 : decode cX0_take 38 = .ok (.aload_n 0, 1) := by decide +kernel
theorem dX0_take_39 : decode cX0_take 39 = .ok (.aload_n 1, 1) := by decide +kernel
theorem dX0_take_40 : decode cX0_take 40 = .ok (.getfield 33, 3) := by decide +kernel
theorem dX0_take_43 : decode cX0_take 43 = .ok (.putfield 33, 3) := by decide +kernel
theorem dX0_take_46 : decode cX0_take 46 = .ok (.aload_n 0, 1) := by decide +kernel
theorem dX0_take_47 : decode cX0_take 47 = .ok (.aload_n 1, 1) := by decide +kernel
theorem dX0_take_48 : decode cX0_take 48 = .ok (.getfield 36, 3) := by decide +kernel
theorem dX0_take_51 : decode cX0_take 51 = .ok (.putfield 36, 3) := by decide +kernel
theorem dX0_take_54 : decode cX0_take 54 = .ok (.aload_n 0, 1) := by decide +kernel
theorem dX0_take_55 : decode cX0_take 55 = .ok (.aload_n 1, 1) := by decide +kernel
theorem dX0_take_56 : decode cX0_take 56 = .ok (.getfield 39, 3) := by decide +kernel
theorem dX0_take_59 : decode cX0_take 59 = .ok (.putfield 39, 3) := by decide +kernel
theorem dX0_take_62 : decode cX0_take 62 = .ok (.aload_n 0, 1) := by decide +kernel
theorem dX0_take_63 : decode cX0_take 63 = .ok (.aload_n 1, 1) := by decide +kernel
theorem dX0_take_64 : decode cX0_take 64 = .ok (.getfield 42, 3) := by decide +kernel
theorem dX0_take_67 : decode cX0_take 67 = .ok (.putfield 42, 3) := by decide +kernel
theorem dX0_take_70 : decode cX0_take 70 = .ok (.aload_n 0, 1) := by decide +kernel
theorem dX0_take_71 : decode cX0_take 71 = .ok (.aload_n 1, 1) := by decide +kernel
theorem dX0_take_72 : decode cX0_take 72 = .ok (.getfield 45, 3) := by decide +kernel
theorem dX0_take_75 : decode cX0_take 75 = .ok (.putfield 45, 3) := by decide +kernel
theorem dX0_take_78 : decode cX0_take 78 = .ok (.aload_n 0, 1) := by decide +kernel
theorem dX0_take_79 : decode cX0_take 79 = .ok (.aload_n 1, 1) := by decide +kernel
theorem dX0_take_80 : decode cX0_take 80 = .ok (.getfield 48, 3) := by decide +kernel
theorem dX0_take_83 : decode cX0_take 83 = .ok (.putfield 48, 3) := by decide +kernel
theorem dX0_take_86 : decode cX0_take 86 = .ok (.return_, 1) := by decide +kernel
theorem dX0_stride_0 : decode cX0_stride 0 = .ok (.aload_n 0, 1) := by decide +kernel
theorem dX0_stride_1 : decode cX0_stride 1 = .ok (.getfield 42, 3) := by decide +kernel
theorem dX0_stride_4 : decode cX0_stride 4 = .ok (.ifCond .eq 5, 3) := by decide +kernel
theorem dX0_stride_7 : decode cX0_stride 7 = .ok (.iconst 0, 1) := by decide +kernel
theorem dX0_stride_8 : decode cX0_stride 8 = .ok (.ireturn, 1) := by decide +kernel
theorem dX0_stride_9 : decode cX0_stride 9 = .ok (.aload_n 0, 1) := by decide +kernel
theorem dX0_stride_10 : decode cX0_stride 10 = .ok (.getfield 33, 3) := by decide +kernel
theorem dX0_stride_13 : decode cX0_stride 13 = .ok (.aload_n 0, 1) := by decide +kernel
theorem dX0_stride_14 : decode cX0_stride 14 = .ok (.getfield 33, 3) := by decide +kernel
theorem dX0_stride_17 : decode cX0_stride 17 = .ok (.imul, 1) := by decide +kernel
theorem dX0_stride_18 : decode cX0_stride 18 = .ok (.aload_n 0, 1) := by decide +kernel
theorem dX0_stride_19 : decode cX0_stride 19 = .ok (.getfield 12, 3) := by decide +kernel
theorem dX0_stride_22 : decode cX0_stride 22 = .ok (.invokevirtual 58, 3) := by decide +kernel
theorem dX0_stride_25 : decode cX0_stride 25 = .ok (.idiv, 1) := by decide +kernel
theorem dX0_stride_26 : decode cX0_stride 26 = .ok (.istore_n 1, 1) := by decide +kernel
theorem dX0_stride_27 : decode cX0_stride 27 = .ok (.aload_n 0, 1) := by decide +kernel
theorem dX0_stride_28 : decode cX0_stride 28 = .ok (.getfield 33, 3) := by decide +kernel
theorem dX0_stride_31 : decode cX0_stride 31 = .ok (.aload_n 0, 1) := by decide +kernel
theorem dX0_stride_32 : decode cX0_stride 32 = .ok (.getfield 12, 3) := by decide +kernel
theorem dX0_stride_35 : decode cX0_stride 35 = .ok (.aload_n 0, 1) := by decide +kernel
theorem dX0_stride_36 : decode cX0_stride 36 = .ok (.getfield 29, 3) := by decide +kernel
theorem dX0_stride_39 : decode cX0_stride 39 = .ok (.aload_n 0, 1) := by decide +kernel
theorem dX0_stride_40 : decode cX0_stride 40 = .ok (.getfield 36, 3) := by decide +kernel
theorem dX0_stride_43 : decode cX0_stride 43 = .ok (.invokevirtual 62, 3) := by decide +kernel
theorem dX0_stride_46 : decode cX0_stride 46 = .ok (.iadd, 1) := by decide +kernel
theorem dX0_stride_47 : decode cX0_stride 47 = .ok (.iload_n 1, 1) := by decide +kernel
theorem dX0_stride_48 : decode cX0_stride 48 = .ok (.isub, 1) := by decide +kernel
theorem dX0_stride_49 : decode cX0_stride 49 = .ok (.aload_n 0, 1) := by decide +kernel
theorem dX0_stride_50 : decode cX0_stride 50 = .ok (.getfield 21, 3) := by decide +kernel
theorem dX0_stride_53 : decode cX0_stride 53 = .ok (.getfield 66, 3) := by decide +kernel
theorem dX0_stride_56 : decode cX0_stride 56 = .ok (.isub, 1) := by decide +kernel
theorem dX0_stride_57 : decode cX0_stride 57 = .ok (.aload_n 0, 1) := by decide +kernel
theorem dX0_stride_58 : decode cX0_stride 58 = .ok (.getfield 21, 3) := by decide +kernel
theorem dX0_stride_61 : decode cX0_stride 61 = .ok (.aload_n 0, 1) := by decide +kernel
theorem dX0_stride_62 : decode cX0_stride 62 = .ok (.getfield 39, 3) := by decide +kernel
theorem dX0_stride_65 : decode cX0_stride 65 = .ok (.invokevirtual 69, 3) := by decide +kernel
theorem dX0_stride_68 : decode cX0_stride 68 = .ok (.isub, 1) := by decide +kernel
theorem dX0_stride_69 : decode cX0_stride 69 = .ok (.istore_n 2, 1) := by decide +kernel
theorem dX0_stride_70 : decode cX0_stride 70 = .ok (.iload_n 2, 1) := by decide +kernel
theorem dX0_stride_71 : decode cX0_stride 71 = .ok (.iconst 3, 1) := by decide +kernel
theorem dX0_stride_72 : decode cX0_stride 72 = .ok (.if_icmp .ge 13, 3) := by decide +kernel
theorem dX0_stride_75 : decode cX0_stride 75 = .ok (.aload_n 0, 1) := by decide +kernel
theorem dX0_stride_76 : decode cX0_stride 76 = .ok (.iconst 1, 1) := by decide +kernel
theorem dX0_stride_77 : decode cX0_stride 77 = .ok (.putfield 42, 3) := by decide +kernel
theorem dX0_stride_80 : decode cX0_stride 80 = .ok (.iconst 0, 1) := by decide +kernel
theorem dX0_stride_81 : decode cX0_stride 81 = .ok (.istore_n 2, 1) := by decide +kernel
theorem dX0_stride_82 : decode cX0_stride 82 = .ok (.goto 32, 3) := by decide +kernel
theorem dX0_stride_85 : decode cX0_stride 85 = .ok (.iload_n 2, 1) := by decide +kernel
theorem dX0_stride_86 : decode cX0_stride 86 = .ok (.aload_n 0, 1) := by decide +kernel
theorem dX0_stride_87 : decode cX0_stride 87 = .ok (.getfield 12, 3) := by decide +kernel
theorem dX0_stride_90 : decode cX0_stride 90 = .ok (.invokevirtual 73, 3) := by decide +kernel
theorem dX0_stride_93 : decode cX0_stride 93 = .ok (.if_icmp .le 11, 3) := by decide +kernel
theorem dX0_stride_96 : decode cX0_stride 96 = .ok (.aload_n 0, 1) := by decide +kernel
theorem dX0_stride_97 : decode cX0_stride 97 = .ok (.iconst 2, 1) := by decide +kernel
theorem dX0_stride_98 : decode cX0_stride 98 = .ok (.putfield 42, 3) := by decide +kernel
theorem dX0_stride_101 : decode cX0_stride 101 = .ok (.goto 13, 3) := by decide +kernel
theorem dX0_stride_104 : decode cX0_stride 104 = .ok (.aload_n 0, 1) := by decide +kernel
theorem dX0_stride_105 : decode cX0_stride 105 = .ok (.iconst 1, 1) := by decide +kernel
theorem dX0_stride_106 : decode cX0_stride 106 = .ok (.aload_n 0, 1) := by decide +kernel
theorem dX0_stride_107 : decode cX0_stride 107 = .ok (.getfield 36, 3) := by decide +kernel
theorem dX0_stride_110 : decode cX0_stride 110 = .ok (.isub, 1) := by decide +kernel
theorem dX0_stride_111 : decode cX0_stride 111 = .ok (.putfield 36, 3) := by decide +kernel
theorem dX0_stride_114 : decode cX0_stride 114 = .ok (.aload_n 0, 1) := by decide +kernel
theorem dX0_stride_115 : decode cX0_stride 115 = .ok (.iload_n 2, 1) := by decide +kernel
theorem dX0_stride_116 : decode cX0_stride 116 = .ok (.putfield 33, 3) := by decide +kernel
theorem dX0_stride_119 : decode cX0_stride 119 = .ok (.aload_n 0, 1) := by decide +kernel
theorem dX0_stride_120 : decode cX0_stride 120 = .ok (.dup, 1) := by decide +kernel
theorem dX0_stride_121 : decode cX0_stride 121 = .ok (.getfield 39, 3) := by decide +kernel
theorem dX0_stride_124 : decode cX0_stride 124 = .ok (.iconst 1, 1) := by decide +kernel
theorem dX0_stride_125 : decode cX0_stride 125 = .ok (.iadd, 1) := by decide +kernel
theorem dX0_stride_126 : decode cX0_stride 126 = .ok (.putfield 39, 3) := by decide +kernel
theorem dX0_stride_129 : decode cX0_stride 129 = .ok (.aload_n 0, 1) := by decide +kernel
theorem dX0_stride_130 : decode cX0_stride 130 = .ok (.dup, 1) := by decide +kernel
theorem dX0_stride_131 : decode cX0_stride 131 = .ok (.getfield 45, 3) := by decide +kernel
theorem dX0_stride_134 : decode cX0_stride 134 = .ok (.iload_n 1, 1) := by decide +kernel
theorem dX0_stride_135 : decode cX0_stride 135 = .ok (.iadd, 1) := by decide +kernel
theorem dX0_stride_136 : decode cX0_stride 136 = .ok (.putfield 45, 3) := by decide +kernel
theorem dX0_stride_139 : decode cX0_stride 139 = .ok (.aload_n 0, 1) := by decide +kernel
theorem dX0_stride_140 : decode cX0_stride 140 = .ok (.dup, 1) := by decide +kernel
theorem dX0_stride_141 : decode cX0_stride 141 = .ok (.getfield 48, 3) := by decide +kernel
theorem dX0_stride_144 : decode cX0_stride 144 = .ok (.aload_n 0, 1) := by decide +kernel
theorem dX0_stride_145 : decode cX0_stride 145 = .ok (.getfield 12, 3) := by decide +kernel
theorem dX0_stride_148 : decode cX0_stride 148 = .ok (.getfield 76, 3) := by decide +kernel
theorem dX0_stride_151 : decode cX0_stride 151 = .ok (.iconst 3, 1) := by decide +kernel
theorem dX0_stride_152 : decode cX0_stride 152 = .ok (.iaload, 1) := by decide +kernel
theorem dX0_stride_153 : decode cX0_stride 153 = .ok (.aload_n 0, 1) := by decide +kernel
theorem dX0_stride_154 : decode cX0_stride 154 = .ok (.getfield 33, 3) := by decide +kernel
theorem dX0_stride_157 : decode cX0_stride 157 = .ok (.bipush 10, 2) := by decide +kernel
theorem dX0_stride_159 : decode cX0_stride 159 = .ok (.idiv, 1) := by decide +kernel
theorem dX0_stride_160 : decode cX0_stride 160 = .ok (.iadd, 1) := by decide +kernel
theorem dX0_stride_161 : decode cX0_stride 161 = .ok (.iadd, 1) := by decide +kernel
theorem dX0_stride_162 : decode cX0_stride 162 = .ok (.putfield 48, 3) := by decide +kernel
theorem dX0_stride_165 : decode cX0_stride 165 = .ok (.iconst 1, 1) := by decide +kernel
theorem dX0_stride_166 : decode cX0_stride 166 = .ok (.ireturn, 1) := by decide +kernel
theorem dX0_strideOn_0 : decode cX0_strideOn 0 = .ok (.iconst 0, 1) := by decide +kernel
theorem dX0_strideOn_1 : decode cX0_strideOn 1 = .ok (.istore_n 2, 1) := by decide +kernel
theorem dX0_strideOn_2 : decode cX0_strideOn 2 = .ok (.iload_n 2, 1) := by decide +kernel
theorem dX0_strideOn_3 : decode cX0_strideOn 3 = .ok (.iload_n 1, 1) := by decide +kernel
theorem dX0_strideOn_4 : decode cX0_strideOn 4 = .ok (.if_icmp .ge 16, 3) := by decide +kernel
theorem dX0_strideOn_7 : decode cX0_strideOn 7 = .ok (.aload_n 0, 1) := by decide +kernel
theorem dX0_strideOn_8 : decode cX0_strideOn 8 = .ok (.invokevirtual 80, 3) := by decide +kernel
theorem dX0_strideOn_11 : decode cX0_strideOn 11 = .ok (.ifCond .eq 9, 3) := by decide +kernel
theorem dX0_strideOn_14 : decode cX0_strideOn 14 = .ok (.iinc 2 1, 3) := by decide +kernel
theorem dX0_strideOn_17 : decode cX0_strideOn 17 = .ok (.goto (-15), 3) := by decide +kernel
theorem dX0_strideOn_20 : decode cX0_strideOn 20 = .ok (.iload_n 2, 1) := by decide +kernel
theorem dX0_strideOn_21 : decode cX0_strideOn 21 = .ok (.ireturn, 1) := by decide +kernel
theorem dX0_value_0 : decode cX0_value 0 = .ok (.iload_n 1, 1) := by decide +kernel
theorem dX0_value_1 : decode cX0_value 1 = .ok (.tableswitch 69 0 5 #[39, 44, 49, 54, 59, 64], 39) := by decide +kernel
theorem dX0_value_40 : decode cX0_value 40 = .ok (.aload_n 0, 1) := by decide +kernel
theorem dX0_value_41 : decode cX0_value 41 = .ok (.getfield 33, 3) := by decide +kernel
theorem dX0_value_44 : decode cX0_value 44 = .ok (.ireturn, 1) := by decide +kernel
theorem dX0_value_45 : decode cX0_value 45 = .ok (.aload_n 0, 1) := by decide +kernel
theorem dX0_value_46 : decode cX0_value 46 = .ok (.getfield 36, 3) := by decide +kernel
theorem dX0_value_49 : decode cX0_value 49 = .ok (.ireturn, 1) := by decide +kernel
theorem dX0_value_50 : decode cX0_value 50 = .ok (.aload_n 0, 1) := by decide +kernel
theorem dX0_value_51 : decode cX0_value 51 = .ok (.getfield 39, 3) := by decide +kernel
theorem dX0_value_54 : decode cX0_value 54 = .ok (.ireturn, 1) := by decide +kernel
theorem dX0_value_55 : decode cX0_value 55 = .ok (.aload_n 0, 1) := by decide +kernel
theorem dX0_value_56 : decode cX0_value 56 = .ok (.getfield 42, 3) := by decide +kernel
theorem dX0_value_59 : decode cX0_value 59 = .ok (.ireturn, 1) := by decide +kernel
theorem dX0_value_60 : decode cX0_value 60 = .ok (.aload_n 0, 1) := by decide +kernel
theorem dX0_value_61 : decode cX0_value 61 = .ok (.getfield 29, 3) := by decide +kernel
theorem dX0_value_64 : decode cX0_value 64 = .ok (.ireturn, 1) := by decide +kernel
theorem dX0_value_65 : decode cX0_value 65 = .ok (.aload_n 0, 1) := by decide +kernel
theorem dX0_value_66 : decode cX0_value 66 = .ok (.getfield 45, 3) := by decide +kernel
theorem dX0_value_69 : decode cX0_value 69 = .ok (.ireturn, 1) := by decide +kernel
theorem dX0_value_70 : decode cX0_value 70 = .ok (.aload_n 0, 1) := by decide +kernel
theorem dX0_value_71 : decode cX0_value 71 = .ok (.getfield 48, 3) := by decide +kernel
theorem dX0_value_74 : decode cX0_value 74 = .ok (.ireturn, 1) := by decide +kernel
theorem dX0_digestOn_0 : decode cX0_digestOn 0 = .ok (.aload_n 0, 1) := by decide +kernel
theorem dX0_digestOn_1 : decode cX0_digestOn 1 = .ok (.getfield 25, 3) := by decide +kernel
theorem dX0_digestOn_4 : decode cX0_digestOn 4 = .ok (.ifCond .ne 11, 3) := by decide +kernel
theorem dX0_digestOn_7 : decode cX0_digestOn 7 = .ok (.ldc2_w 84, 3) := by decide +kernel
theorem dX0_digestOn_10 : decode cX0_digestOn 10 = .ok (.lload_n 1, 1) := by decide +kernel
theorem dX0_digestOn_11 : decode cX0_digestOn 11 = .ok (.lmul, 1) := by decide +kernel
theorem dX0_digestOn_12 : decode cX0_digestOn 12 = .ok (.lconst 1, 1) := by decide +kernel
theorem dX0_digestOn_13 : decode cX0_digestOn 13 = .ok (.lsub, 1) := by decide +kernel
theorem dX0_digestOn_14 : decode cX0_digestOn 14 = .ok (.lreturn, 1) := by decide +kernel
theorem dX0_digestOn_15 : decode cX0_digestOn 15 = .ok (.lload_n 1, 1) := by decide +kernel
theorem dX0_digestOn_16 : decode cX0_digestOn 16 = .ok (.lstore_n 3, 1) := by decide +kernel
theorem dX0_digestOn_17 : decode cX0_digestOn 17 = .ok (.iconst 0, 1) := by decide +kernel
theorem dX0_digestOn_18 : decode cX0_digestOn 18 = .ok (.istore 5, 2) := by decide +kernel
theorem dX0_digestOn_20 : decode cX0_digestOn 20 = .ok (.iload 5, 2) := by decide +kernel
theorem dX0_digestOn_22 : decode cX0_digestOn 22 = .ok (.bipush 6, 2) := by decide +kernel
theorem dX0_digestOn_24 : decode cX0_digestOn 24 = .ok (.if_icmp .gt 23, 3) := by decide +kernel
theorem dX0_digestOn_27 : decode cX0_digestOn 27 = .ok (.ldc2_w 84, 3) := by decide +kernel
theorem dX0_digestOn_30 : decode cX0_digestOn 30 = .ok (.lload_n 3, 1) := by decide +kernel
theorem dX0_digestOn_31 : decode cX0_digestOn 31 = .ok (.lmul, 1) := by decide +kernel
theorem dX0_digestOn_32 : decode cX0_digestOn 32 = .ok (.aload_n 0, 1) := by decide +kernel
theorem dX0_digestOn_33 : decode cX0_digestOn 33 = .ok (.iload 5, 2) := by decide +kernel
theorem dX0_digestOn_35 : decode cX0_digestOn 35 = .ok (.invokevirtual 86, 3) := by decide +kernel
theorem dX0_digestOn_38 : decode cX0_digestOn 38 = .ok (.i2l, 1) := by decide +kernel
theorem dX0_digestOn_39 : decode cX0_digestOn 39 = .ok (.ladd, 1) := by decide +kernel
theorem dX0_digestOn_40 : decode cX0_digestOn 40 = .ok (.lstore_n 3, 1) := by decide +kernel
theorem dX0_digestOn_41 : decode cX0_digestOn 41 = .ok (.iinc 5 1, 3) := by decide +kernel
theorem dX0_digestOn_44 : decode cX0_digestOn 44 = .ok (.goto (-24), 3) := by decide +kernel
theorem dX0_digestOn_47 : decode cX0_digestOn 47 = .ok (.lload_n 3, 1) := by decide +kernel
theorem dX0_digestOn_48 : decode cX0_digestOn 48 = .ok (.lreturn, 1) := by decide +kernel
theorem dX1_init_0 : decode cX1_init 0 = .ok (.aload_n 0, 1) := by decide +kernel
theorem dX1_init_1 : decode cX1_init 1 = .ok (.invokespecial 3, 3) := by decide +kernel
theorem dX1_init_4 : decode cX1_init 4 = .ok (.aload_n 0, 1) := by decide +kernel
theorem dX1_init_5 : decode cX1_init 5 = .ok (.bipush 6, 2) := by decide +kernel
theorem dX1_init_7 : decode cX1_init 7 = .ok (.newarray .int, 2) := by decide +kernel
theorem dX1_init_9 : decode cX1_init 9 = .ok (.putfield 9, 3) := by decide +kernel
theorem dX1_init_12 : decode cX1_init 12 = .ok (.aload_n 0, 1) := by decide +kernel
theorem dX1_init_13 : decode cX1_init 13 = .ok (.iconst 0, 1) := by decide +kernel
theorem dX1_init_14 : decode cX1_init 14 = .ok (.putfield 15, 3) := by decide +kernel
theorem dX1_init_17 : decode cX1_init 17 = .ok (.aload_n 0, 1) := by decide +kernel
theorem dX1_init_18 : decode cX1_init 18 = .ok (.iconst 0, 1) := by decide +kernel
theorem dX1_init_19 : decode cX1_init 19 = .ok (.putfield 19, 3) := by decide +kernel
theorem dX1_init_22 : decode cX1_init 22 = .ok (.return_, 1) := by decide +kernel
theorem dX1_clear_0 : decode cX1_clear 0 = .ok (.aload_n 0, 1) := by decide +kernel
theorem dX1_clear_1 : decode cX1_clear 1 = .ok (.getfield 9, 3) := by decide +kernel
theorem dX1_clear_4 : decode cX1_clear 4 = .ok (.iconst 0, 1) := by decide +kernel
theorem dX1_clear_5 : decode cX1_clear 5 = .ok (.iconst 4, 1) := by decide +kernel
theorem dX1_clear_6 : decode cX1_clear 6 = .ok (.iconst 5, 1) := by decide +kernel
theorem dX1_clear_7 : decode cX1_clear 7 = .ok (.invokestatic 23, 3) := by decide +kernel
theorem dX1_clear_10 : decode cX1_clear 10 = .ok (.aload_n 0, 1) := by decide +kernel
theorem dX1_clear_11 : decode cX1_clear 11 = .ok (.getfield 9, 3) := by decide +kernel
theorem dX1_clear_14 : decode cX1_clear 14 = .ok (.iconst 4, 1) := by decide +kernel
theorem dX1_clear_15 : decode cX1_clear 15 = .ok (.bipush 6, 2) := by decide +kernel
theorem dX1_clear_17 : decode cX1_clear 17 = .ok (.iconst 0, 1) := by decide +kernel
theorem dX1_clear_18 : decode cX1_clear 18 = .ok (.invokestatic 23, 3) := by decide +kernel
theorem dX1_clear_21 : decode cX1_clear 21 = .ok (.aload_n 0, 1) := by decide +kernel
theorem dX1_clear_22 : decode cX1_clear 22 = .ok (.iconst 0, 1) := by decide +kernel
theorem dX1_clear_23 : decode cX1_clear 23 = .ok (.putfield 15, 3) := by decide +kernel
theorem dX1_clear_26 : decode cX1_clear 26 = .ok (.return_, 1) := by decide +kernel
theorem dX1_take_0 : decode cX1_take 0 = .ok (.aload_n 1, 1) := by decide +kernel
theorem dX1_take_1 : decode cX1_take 1 = .ok (.getfield 9, 3) := by decide +kernel
theorem dX1_take_4 : decode cX1_take 4 = .ok (.iconst 0, 1) := by decide +kernel
theorem dX1_take_5 : decode cX1_take 5 = .ok (.aload_n 0, 1) := by decide +kernel
theorem dX1_take_6 : decode cX1_take 6 = .ok (.getfield 9, 3) := by decide +kernel
theorem dX1_take_9 : decode cX1_take 9 = .ok (.iconst 0, 1) := by decide +kernel
theorem dX1_take_10 : decode cX1_take 10 = .ok (.bipush 6, 2) := by decide +kernel
theorem dX1_take_12 : decode cX1_take 12 = .ok (.invokestatic 29, 3) := by decide +kernel
theorem dX1_take_15 : decode cX1_take 15 = .ok (.aload_n 0, 1) := by decide +kernel
theorem dX1_take_16 : decode cX1_take 16 = .ok (.aload_n 1, 1) := by decide +kernel
theorem dX1_take_17 : decode cX1_take 17 = .ok (.getfield 15, 3) := by decide +kernel
theorem dX1_take_20 : decode cX1_take 20 = .ok (.putfield 15, 3) := by decide +kernel
theorem dX1_take_23 : decode cX1_take 23 = .ok (.return_, 1) := by decide +kernel
theorem dX1_shape_0 : decode cX1_shape 0 = .ok (.aload_n 0, 1) := by decide +kernel
theorem dX1_shape_1 : decode cX1_shape 1 = .ok (.getfield 9, 3) := by decide +kernel
theorem dX1_shape_4 : decode cX1_shape 4 = .ok (.iconst 0, 1) := by decide +kernel
theorem dX1_shape_5 : decode cX1_shape 5 = .ok (.iload_n 1, 1) := by decide +kernel
theorem dX1_shape_6 : decode cX1_shape 6 = .ok (.iastore, 1) := by decide +kernel
theorem dX1_shape_7 : decode cX1_shape 7 = .ok (.aload_n 0, 1) := by decide +kernel
theorem dX1_shape_8 : decode cX1_shape 8 = .ok (.getfield 9, 3) := by decide +kernel
theorem dX1_shape_11 : decode cX1_shape 11 = .ok (.iconst 1, 1) := by decide +kernel
theorem dX1_shape_12 : decode cX1_shape 12 = .ok (.iload_n 2, 1) := by decide +kernel
theorem dX1_shape_13 : decode cX1_shape 13 = .ok (.iastore, 1) := by decide +kernel
theorem dX1_shape_14 : decode cX1_shape 14 = .ok (.aload_n 0, 1) := by decide +kernel
theorem dX1_shape_15 : decode cX1_shape 15 = .ok (.getfield 9, 3) := by decide +kernel
theorem dX1_shape_18 : decode cX1_shape 18 = .ok (.iconst 2, 1) := by decide +kernel
theorem dX1_shape_19 : decode cX1_shape 19 = .ok (.iload_n 3, 1) := by decide +kernel
theorem dX1_shape_20 : decode cX1_shape 20 = .ok (.iastore, 1) := by decide +kernel
theorem dX1_shape_21 : decode cX1_shape 21 = .ok (.return_, 1) := by decide +kernel
theorem dX1_isUntold_0 : decode cX1_isUntold 0 = .ok (.aload_n 0, 1) := by decide +kernel
theorem dX1_isUntold_1 : decode cX1_isUntold 1 = .ok (.getfield 15, 3) := by decide +kernel
theorem dX1_isUntold_4 : decode cX1_isUntold 4 = .ok (.iload_n 1, 1) := by decide +kernel
theorem dX1_isUntold_5 : decode cX1_isUntold 5 = .ok (.ishr, 1) := by decide +kernel
theorem dX1_isUntold_6 : decode cX1_isUntold 6 = .ok (.iconst 1, 1) := by decide +kernel
theorem dX1_isUntold_7 : decode cX1_isUntold 7 = .ok (.iand, 1) := by decide +kernel
theorem dX1_isUntold_8 : decode cX1_isUntold 8 = .ok (.ifCond .eq 7, 3) := by decide +kernel
theorem dX1_isUntold_11 : decode cX1_isUntold 11 = .ok (.iconst 1, 1) := by decide +kernel
theorem dX1_isUntold_12 : decode cX1_isUntold 12 = .ok (.goto 4, 3) := by decide +kernel
theorem dX1_isUntold_15 : decode cX1_isUntold 15 = .ok (.iconst 0, 1) := by decide +kernel
theorem dX1_isUntold_16 : decode cX1_isUntold 16 = .ok (.ireturn, 1) := by decide +kernel
theorem dX1_ways_0 : decode cX1_ways 0 = .ok (.iconst 1, 1) := by decide +kernel
theorem dX1_ways_1 : decode cX1_ways 1 = .ok (.istore_n 1, 1) := by decide +kernel
theorem dX1_ways_2 : decode cX1_ways 2 = .ok (.iconst 0, 1) := by decide +kernel
theorem dX1_ways_3 : decode cX1_ways 3 = .ok (.istore_n 2, 1) := by decide +kernel
theorem dX1_ways_4 : decode cX1_ways 4 = .ok (.iload_n 2, 1) := by decide +kernel
theorem dX1_ways_5 : decode cX1_ways 5 = .ok (.iconst 3, 1) := by decide +kernel
theorem dX1_ways_6 : decode cX1_ways 6 = .ok (.if_icmp .gt 26, 3) := by decide +kernel
theorem dX1_ways_9 : decode cX1_ways 9 = .ok (.iload_n 1, 1) := by decide +kernel
theorem dX1_ways_10 : decode cX1_ways 10 = .ok (.aload_n 0, 1) := by decide +kernel
theorem dX1_ways_11 : decode cX1_ways 11 = .ok (.iload_n 2, 1) := by decide +kernel
theorem dX1_ways_12 : decode cX1_ways 12 = .ok (.invokevirtual 35, 3) := by decide +kernel
theorem dX1_ways_15 : decode cX1_ways 15 = .ok (.ifCond .eq 8, 3) := by decide +kernel
theorem dX1_ways_18 : decode cX1_ways 18 = .ok (.bipush 9, 2) := by decide +kernel
theorem dX1_ways_20 : decode cX1_ways 20 = .ok (.goto 4, 3) := by decide +kernel
theorem dX1_ways_23 : decode cX1_ways 23 = .ok (.iconst 1, 1) := by decide +kernel
theorem dX1_ways_24 : decode cX1_ways 24 = .ok (.imul, 1) := by decide +kernel
theorem dX1_ways_25 : decode cX1_ways 25 = .ok (.istore_n 1, 1) := by decide +kernel
theorem dX1_ways_26 : decode cX1_ways 26 = .ok (.iinc 2 1, 3) := by decide +kernel
theorem dX1_ways_29 : decode cX1_ways 29 = .ok (.goto (-25), 3) := by decide +kernel
theorem dX1_ways_32 : decode cX1_ways 32 = .ok (.iload_n 1, 1) := by decide +kernel
theorem dX1_ways_33 : decode cX1_ways 33 = .ok (.ireturn, 1) := by decide +kernel
theorem dX1_tellUntold_0 : decode cX1_tellUntold 0 = .ok (.iload_n 1, 1) := by decide +kernel
theorem dX1_tellUntold_1 : decode cX1_tellUntold 1 = .ok (.istore_n 2, 1) := by decide +kernel
theorem dX1_tellUntold_2 : decode cX1_tellUntold 2 = .ok (.iconst 3, 1) := by decide +kernel
theorem dX1_tellUntold_3 : decode cX1_tellUntold 3 = .ok (.istore_n 3, 1) := by decide +kernel
theorem dX1_tellUntold_4 : decode cX1_tellUntold 4 = .ok (.iload_n 3, 1) := by decide +kernel
theorem dX1_tellUntold_5 : decode cX1_tellUntold 5 = .ok (.ifCond .lt 34, 3) := by decide +kernel
theorem dX1_tellUntold_8 : decode cX1_tellUntold 8 = .ok (.aload_n 0, 1) := by decide +kernel
theorem dX1_tellUntold_9 : decode cX1_tellUntold 9 = .ok (.iload_n 3, 1) := by decide +kernel
theorem dX1_tellUntold_10 : decode cX1_tellUntold 10 = .ok (.invokevirtual 35, 3) := by decide +kernel
theorem dX1_tellUntold_13 : decode cX1_tellUntold 13 = .ok (.ifCond .eq 20, 3) := by decide +kernel
theorem dX1_tellUntold_16 : decode cX1_tellUntold 16 = .ok (.aload_n 0, 1) := by decide +kernel
theorem dX1_tellUntold_17 : decode cX1_tellUntold 17 = .ok (.getfield 9, 3) := by decide +kernel
theorem dX1_tellUntold_20 : decode cX1_tellUntold 20 = .ok (.iload_n 3, 1) := by decide +kernel
theorem dX1_tellUntold_21 : decode cX1_tellUntold 21 = .ok (.iconst 1, 1) := by decide +kernel
theorem dX1_tellUntold_22 : decode cX1_tellUntold 22 = .ok (.iload_n 2, 1) := by decide +kernel
theorem dX1_tellUntold_23 : decode cX1_tellUntold 23 = .ok (.bipush 9, 2) := by decide +kernel
theorem dX1_tellUntold_25 : decode cX1_tellUntold 25 = .ok (.irem, 1) := by decide +kernel
theorem dX1_tellUntold_26 : decode cX1_tellUntold 26 = .ok (.iadd, 1) := by decide +kernel
theorem dX1_tellUntold_27 : decode cX1_tellUntold 27 = .ok (.iastore, 1) := by decide +kernel
theorem dX1_tellUntold_28 : decode cX1_tellUntold 28 = .ok (.iload_n 2, 1) := by decide +kernel
theorem dX1_tellUntold_29 : decode cX1_tellUntold 29 = .ok (.bipush 9, 2) := by decide +kernel
theorem dX1_tellUntold_31 : decode cX1_tellUntold 31 = .ok (.idiv, 1) := by decide +kernel
theorem dX1_tellUntold_32 : decode cX1_tellUntold 32 = .ok (.istore_n 2, 1) := by decide +kernel
theorem dX1_tellUntold_33 : decode cX1_tellUntold 33 = .ok (.iinc 3 (-1), 3) := by decide +kernel
theorem dX1_tellUntold_36 : decode cX1_tellUntold 36 = .ok (.goto (-32), 3) := by decide +kernel
theorem dX1_tellUntold_39 : decode cX1_tellUntold 39 = .ok (.return_, 1) := by decide +kernel
theorem dX1_asNumber_0 : decode cX1_asNumber 0 = .ok (.sipush 1000, 3) := by decide +kernel
theorem dX1_asNumber_3 : decode cX1_asNumber 3 = .ok (.aload_n 0, 1) := by decide +kernel
theorem dX1_asNumber_4 : decode cX1_asNumber 4 = .ok (.getfield 9, 3) := by decide +kernel
theorem dX1_asNumber_7 : decode cX1_asNumber 7 = .ok (.iconst 0, 1) := by decide +kernel
theorem dX1_asNumber_8 : decode cX1_asNumber 8 = .ok (.iaload, 1) := by decide +kernel
theorem dX1_asNumber_9 : decode cX1_asNumber 9 = .ok (.imul, 1) := by decide +kernel
theorem dX1_asNumber_10 : decode cX1_asNumber 10 = .ok (.bipush 100, 2) := by decide +kernel
theorem dX1_asNumber_12 : decode cX1_asNumber 12 = .ok (.aload_n 0, 1) := by decide +kernel
theorem dX1_asNumber_13 : decode cX1_asNumber 13 = .ok (.getfield 9, 3) := by decide +kernel
theorem dX1_asNumber_16 : decode cX1_asNumber 16 = .ok (.iconst 1, 1) := by decide +kernel
theorem dX1_asNumber_17 : decode cX1_asNumber 17 = .ok (.iaload, 1) := by decide +kernel
theorem dX1_asNumber_18 : decode cX1_asNumber 18 = .ok (.imul, 1) := by decide +kernel
theorem dX1_asNumber_19 : decode cX1_asNumber 19 = .ok (.iadd, 1) := by decide +kernel
theorem dX1_asNumber_20 : decode cX1_asNumber 20 = .ok (.bipush 10, 2) := by decide +kernel
theorem dX1_asNumber_22 : decode cX1_asNumber 22 = .ok (.aload_n 0, 1) := by decide +kernel
theorem dX1_asNumber_23 : decode cX1_asNumber 23 = .ok (.getfield 9, 3) := by decide +kernel
theorem dX1_asNumber_26 : decode cX1_asNumber 26 = .ok (.iconst 2, 1) := by decide +kernel
theorem dX1_asNumber_27 : decode cX1_asNumber 27 = .ok (.iaload, 1) := by decide +kernel
theorem dX1_asNumber_28 : decode cX1_asNumber 28 = .ok (.imul, 1) := by decide +kernel
theorem dX1_asNumber_29 : decode cX1_asNumber 29 = .ok (.iadd, 1) := by decide +kernel
theorem dX1_asNumber_30 : decode cX1_asNumber 30 = .ok (.aload_n 0, 1) := by decide +kernel
theorem dX1_asNumber_31 : decode cX1_asNumber 31 = .ok (.getfield 9, 3) := by decide +kernel
theorem dX1_asNumber_34 : decode cX1_asNumber 34 = .ok (.iconst 3, 1) := by decide +kernel
theorem dX1_asNumber_35 : decode cX1_asNumber 35 = .ok (.iaload, 1) := by decide +kernel
theorem dX1_asNumber_36 : decode cX1_asNumber 36 = .ok (.iadd, 1) := by decide +kernel
theorem dX1_asNumber_37 : decode cX1_asNumber 37 = .ok (.ireturn, 1) := by decide +kernel
theorem dX1_value_0 : decode cX1_value 0 = .ok (.iload_n 1, 1) := by decide +kernel
theorem dX1_value_1 : decode cX1_value 1 = .ok (.iconst 0, 1) := by decide +kernel
theorem dX1_value_2 : decode cX1_value 2 = .ok (.iconst 5, 1) := by decide +kernel
theorem dX1_value_3 : decode cX1_value 3 = .ok (.invokestatic 39, 3) := by decide +kernel
theorem dX1_value_6 : decode cX1_value 6 = .ok (.ifCond .eq 10, 3) := by decide +kernel
theorem dX1_value_9 : decode cX1_value 9 = .ok (.aload_n 0, 1) := by decide +kernel
theorem dX1_value_10 : decode cX1_value 10 = .ok (.getfield 15, 3) := by decide +kernel
theorem dX1_value_13 : decode cX1_value 13 = .ok (.goto 9, 3) := by decide +kernel
theorem dX1_value_16 : decode cX1_value 16 = .ok (.aload_n 0, 1) := by decide +kernel
theorem dX1_value_17 : decode cX1_value 17 = .ok (.getfield 9, 3) := by decide +kernel
theorem dX1_value_20 : decode cX1_value 20 = .ok (.iload_n 1, 1) := by decide +kernel
theorem dX1_value_21 : decode cX1_value 21 = .ok (.iaload, 1) := by decide +kernel
theorem dX1_value_22 : decode cX1_value 22 = .ok (.ireturn, 1) := by decide +kernel
theorem dX1_gain_0 : decode cX1_gain 0 = .ok (.iload_n 1, 1) := by decide +kernel
theorem dX1_gain_1 : decode cX1_gain 1 = .ok (.aload_n 0, 1) := by decide +kernel
theorem dX1_gain_2 : decode cX1_gain 2 = .ok (.getfield 9, 3) := by decide +kernel
theorem dX1_gain_5 : decode cX1_gain 5 = .ok (.iconst 3, 1) := by decide +kernel
theorem dX1_gain_6 : decode cX1_gain 6 = .ok (.iaload, 1) := by decide +kernel
theorem dX1_gain_7 : decode cX1_gain 7 = .ok (.imul, 1) := by decide +kernel
theorem dX1_gain_8 : decode cX1_gain 8 = .ok (.bipush 10, 2) := by decide +kernel
theorem dX1_gain_10 : decode cX1_gain 10 = .ok (.idiv, 1) := by decide +kernel
theorem dX1_gain_11 : decode cX1_gain 11 = .ok (.aload_n 0, 1) := by decide +kernel
theorem dX1_gain_12 : decode cX1_gain 12 = .ok (.getfield 9, 3) := by decide +kernel
theorem dX1_gain_15 : decode cX1_gain 15 = .ok (.iload_n 2, 1) := by decide +kernel
theorem dX1_gain_16 : decode cX1_gain 16 = .ok (.ifCond .ne 7, 3) := by decide +kernel
theorem dX1_gain_19 : decode cX1_gain 19 = .ok (.iconst 4, 1) := by decide +kernel
theorem dX1_gain_20 : decode cX1_gain 20 = .ok (.goto 4, 3) := by decide +kernel
theorem dX1_gain_23 : decode cX1_gain 23 = .ok (.iconst 5, 1) := by decide +kernel
theorem dX1_gain_24 : decode cX1_gain 24 = .ok (.iaload, 1) := by decide +kernel
theorem dX1_gain_25 : decode cX1_gain 25 = .ok (.iadd, 1) := by decide +kernel
theorem dX1_gain_26 : decode cX1_gain 26 = .ok (.ireturn, 1) := by decide +kernel
theorem dX1_damp_0 : decode cX1_damp 0 = .ok (.iconst 1, 1) := by decide +kernel
theorem dX1_damp_1 : decode cX1_damp 1 = .ok (.bipush 8, 2) := by decide +kernel
theorem dX1_damp_3 : decode cX1_damp 3 = .ok (.iconst 2, 1) := by decide +kernel
theorem dX1_damp_4 : decode cX1_damp 4 = .ok (.aload_n 0, 1) := by decide +kernel
theorem dX1_damp_5 : decode cX1_damp 5 = .ok (.getfield 9, 3) := by decide +kernel
theorem dX1_damp_8 : decode cX1_damp 8 = .ok (.iconst 1, 1) := by decide +kernel
theorem dX1_damp_9 : decode cX1_damp 9 = .ok (.iaload, 1) := by decide +kernel
theorem dX1_damp_10 : decode cX1_damp 10 = .ok (.imul, 1) := by decide +kernel
theorem dX1_damp_11 : decode cX1_damp 11 = .ok (.iadd, 1) := by decide +kernel
theorem dX1_damp_12 : decode cX1_damp 12 = .ok (.aload_n 0, 1) := by decide +kernel
theorem dX1_damp_13 : decode cX1_damp 13 = .ok (.getfield 9, 3) := by decide +kernel
theorem dX1_damp_16 : decode cX1_damp 16 = .ok (.iconst 2, 1) := by decide +kernel
theorem dX1_damp_17 : decode cX1_damp 17 = .ok (.iaload, 1) := by decide +kernel
theorem dX1_damp_18 : decode cX1_damp 18 = .ok (.isub, 1) := by decide +kernel
theorem dX1_damp_19 : decode cX1_damp 19 = .ok (.invokestatic 43, 3) := by decide +kernel
theorem dX1_damp_22 : decode cX1_damp 22 = .ok (.ireturn, 1) := by decide +kernel
theorem dX1_limit_0 : decode cX1_limit 0 = .ok (.bipush 20, 2) := by decide +kernel
theorem dX1_limit_2 : decode cX1_limit 2 = .ok (.bipush 8, 2) := by decide +kernel
theorem dX1_limit_4 : decode cX1_limit 4 = .ok (.aload_n 0, 1) := by decide +kernel
theorem dX1_limit_5 : decode cX1_limit 5 = .ok (.getfield 9, 3) := by decide +kernel
theorem dX1_limit_8 : decode cX1_limit 8 = .ok (.iconst 0, 1) := by decide +kernel
theorem dX1_limit_9 : decode cX1_limit 9 = .ok (.iaload, 1) := by decide +kernel
theorem dX1_limit_10 : decode cX1_limit 10 = .ok (.imul, 1) := by decide +kernel
theorem dX1_limit_11 : decode cX1_limit 11 = .ok (.iadd, 1) := by decide +kernel
theorem dX1_limit_12 : decode cX1_limit 12 = .ok (.ireturn, 1) := by decide +kernel
theorem dX1_digestOn_0 : decode cX1_digestOn 0 = .ok (.aload_n 0, 1) := by decide +kernel
theorem dX1_digestOn_1 : decode cX1_digestOn 1 = .ok (.getfield 19, 3) := by decide +kernel
theorem dX1_digestOn_4 : decode cX1_digestOn 4 = .ok (.ifCond .ne 11, 3) := by decide +kernel
theorem dX1_digestOn_7 : decode cX1_digestOn 7 = .ok (.ldc2_w 49, 3) := by decide +kernel
theorem dX1_digestOn_10 : decode cX1_digestOn 10 = .ok (.lload_n 1, 1) := by decide +kernel
theorem dX1_digestOn_11 : decode cX1_digestOn 11 = .ok (.lmul, 1) := by decide +kernel
theorem dX1_digestOn_12 : decode cX1_digestOn 12 = .ok (.lconst 1, 1) := by decide +kernel
theorem dX1_digestOn_13 : decode cX1_digestOn 13 = .ok (.lsub, 1) := by decide +kernel
theorem dX1_digestOn_14 : decode cX1_digestOn 14 = .ok (.lreturn, 1) := by decide +kernel
theorem dX1_digestOn_15 : decode cX1_digestOn 15 = .ok (.lload_n 1, 1) := by decide +kernel
theorem dX1_digestOn_16 : decode cX1_digestOn 16 = .ok (.lstore_n 3, 1) := by decide +kernel
theorem dX1_digestOn_17 : decode cX1_digestOn 17 = .ok (.iconst 0, 1) := by decide +kernel
theorem dX1_digestOn_18 : decode cX1_digestOn 18 = .ok (.istore 5, 2) := by decide +kernel
theorem dX1_digestOn_20 : decode cX1_digestOn 20 = .ok (.iload 5, 2) := by decide +kernel
theorem dX1_digestOn_22 : decode cX1_digestOn 22 = .ok (.bipush 6, 2) := by decide +kernel
theorem dX1_digestOn_24 : decode cX1_digestOn 24 = .ok (.if_icmp .gt 23, 3) := by decide +kernel
theorem dX1_digestOn_27 : decode cX1_digestOn 27 = .ok (.ldc2_w 49, 3) := by decide +kernel
theorem dX1_digestOn_30 : decode cX1_digestOn 30 = .ok (.lload_n 3, 1) := by decide +kernel
theorem dX1_digestOn_31 : decode cX1_digestOn 31 = .ok (.lmul, 1) := by decide +kernel
theorem dX1_digestOn_32 : decode cX1_digestOn 32 = .ok (.aload_n 0, 1) := by decide +kernel
theorem dX1_digestOn_33 : decode cX1_digestOn 33 = .ok (.iload 5, 2) := by decide +kernel
theorem dX1_digestOn_35 : decode cX1_digestOn 35 = .ok (.invokevirtual 51, 3) := by decide +kernel
theorem dX1_digestOn_38 : decode cX1_digestOn 38 = .ok (.i2l, 1) := by decide +kernel
theorem dX1_digestOn_39 : decode cX1_digestOn 39 = .ok (.ladd, 1) := by decide +kernel
theorem dX1_digestOn_40 : decode cX1_digestOn 40 = .ok (.lstore_n 3, 1) := by decide +kernel
theorem dX1_digestOn_41 : decode cX1_digestOn 41 = .ok (.iinc 5 1, 3) := by decide +kernel
theorem dX1_digestOn_44 : decode cX1_digestOn 44 = .ok (.goto (-24), 3) := by decide +kernel
theorem dX1_digestOn_47 : decode cX1_digestOn 47 = .ok (.lload_n 3, 1) := by decide +kernel
theorem dX1_digestOn_48 : decode cX1_digestOn 48 = .ok (.lreturn, 1) := by decide +kernel
theorem dX2_init_0 : decode cX2_init 0 = .ok (.aload_n 0, 1) := by decide +kernel
theorem dX2_init_1 : decode cX2_init 1 = .ok (.invokespecial 3, 3) := by decide +kernel
theorem dX2_init_4 : decode cX2_init 4 = .ok (.aload_n 0, 1) := by decide +kernel
theorem dX2_init_5 : decode cX2_init 5 = .ok (.iconst 0, 1) := by decide +kernel
theorem dX2_init_6 : decode cX2_init 6 = .ok (.putfield 9, 3) := by decide +kernel
theorem dX2_init_9 : decode cX2_init 9 = .ok (.aload_n 0, 1) := by decide +kernel
theorem dX2_init_10 : decode cX2_init 10 = .ok (.iconst 0, 1) := by decide +kernel
theorem dX2_init_11 : decode cX2_init 11 = .ok (.putfield 15, 3) := by decide +kernel
theorem dX2_init_14 : decode cX2_init 14 = .ok (.aload_n 0, 1) := by decide +kernel
theorem dX2_init_15 : decode cX2_init 15 = .ok (.iconst 0, 1) := by decide +kernel
theorem dX2_init_16 : decode cX2_init 16 = .ok (.putfield 18, 3) := by decide +kernel
theorem dX2_init_19 : decode cX2_init 19 = .ok (.aload_n 0, 1) := by decide +kernel
theorem dX2_init_20 : decode cX2_init 20 = .ok (.iconst 0, 1) := by decide +kernel
theorem dX2_init_21 : decode cX2_init 21 = .ok (.putfield 21, 3) := by decide +kernel
theorem dX2_init_24 : decode cX2_init 24 = .ok (.return_, 1) := by decide +kernel
theorem dX2_search_0 : decode cX2_search 0 = .ok (.aload_n 0, 1) := by decide +kernel
theorem dX2_search_1 : decode cX2_search 1 = .ok (.ldc 26, 2) := by decide +kernel
theorem dX2_search_3 : decode cX2_search 3 = .ok (.putfield 9, 3) := by decide +kernel
theorem dX2_search_6 : decode cX2_search 6 = .ok (.aload_n 1, 1) := by decide +kernel
theorem dX2_search_7 : decode cX2_search 7 = .ok (.getfield 27, 3) := by decide +kernel
theorem dX2_search_10 : decode cX2_search 10 = .ok (.getfield 33, 3) := by decide +kernel
theorem dX2_search_13 : decode cX2_search 13 = .ok (.iconst 5, 1) := by decide +kernel
theorem dX2_search_14 : decode cX2_search 14 = .ok (.iconst 0, 1) := by decide +kernel
theorem dX2_search_15 : decode cX2_search 15 = .ok (.iastore, 1) := by decide +kernel
theorem dX2_search_16 : decode cX2_search 16 = .ok (.iconst 0, 1) := by decide +kernel
theorem dX2_search_17 : decode cX2_search 17 = .ok (.istore_n 3, 1) := by decide +kernel
theorem dX2_search_18 : decode cX2_search 18 = .ok (.iload_n 3, 1) := by decide +kernel
theorem dX2_search_19 : decode cX2_search 19 = .ok (.bipush 100, 2) := by decide +kernel
theorem dX2_search_21 : decode cX2_search 21 = .ok (.if_icmp .ge 50, 3) := by decide +kernel
theorem dX2_search_24 : decode cX2_search 24 = .ok (.iconst 0, 1) := by decide +kernel
theorem dX2_search_25 : decode cX2_search 25 = .ok (.istore 4, 2) := by decide +kernel
theorem dX2_search_27 : decode cX2_search 27 = .ok (.iload 4, 2) := by decide +kernel
theorem dX2_search_29 : decode cX2_search 29 = .ok (.bipush 9, 2) := by decide +kernel
theorem dX2_search_31 : decode cX2_search 31 = .ok (.if_icmp .gt 34, 3) := by decide +kernel
theorem dX2_search_34 : decode cX2_search 34 = .ok (.aload_n 1, 1) := by decide +kernel
theorem dX2_search_35 : decode cX2_search 35 = .ok (.getfield 27, 3) := by decide +kernel
theorem dX2_search_38 : decode cX2_search 38 = .ok (.getfield 33, 3) := by decide +kernel
theorem dX2_search_41 : decode cX2_search 41 = .ok (.iconst 4, 1) := by decide +kernel
theorem dX2_search_42 : decode cX2_search 42 = .ok (.iload 4, 2) := by decide +kernel
theorem dX2_search_44 : decode cX2_search 44 = .ok (.iastore, 1) := by decide +kernel
theorem dX2_search_45 : decode cX2_search 45 = .ok (.aload_n 0, 1) := by decide +kernel
theorem dX2_search_46 : decode cX2_search 46 = .ok (.aload_n 0, 1) := by decide +kernel
theorem dX2_search_47 : decode cX2_search 47 = .ok (.aload_n 1, 1) := by decide +kernel
theorem dX2_search_48 : decode cX2_search 48 = .ok (.aload_n 2, 1) := by decide +kernel
theorem dX2_search_49 : decode cX2_search 49 = .ok (.iload_n 3, 1) := by decide +kernel
theorem dX2_search_50 : decode cX2_search 50 = .ok (.invokevirtual 39, 3) := by decide +kernel
theorem dX2_search_53 : decode cX2_search 53 = .ok (.iload_n 3, 1) := by decide +kernel
theorem dX2_search_54 : decode cX2_search 54 = .ok (.iload 4, 2) := by decide +kernel
theorem dX2_search_56 : decode cX2_search 56 = .ok (.invokevirtual 43, 3) := by decide +kernel
theorem dX2_search_59 : decode cX2_search 59 = .ok (.iinc 4 1, 3) := by decide +kernel
theorem dX2_search_62 : decode cX2_search 62 = .ok (.goto (-35), 3) := by decide +kernel
theorem dX2_search_65 : decode cX2_search 65 = .ok (.iinc 3 1, 3) := by decide +kernel
theorem dX2_search_68 : decode cX2_search 68 = .ok (.goto (-50), 3) := by decide +kernel
theorem dX2_search_71 : decode cX2_search 71 = .ok (.return_, 1) := by decide +kernel
theorem dX2_weigh_0 : decode cX2_weigh 0 = .ok (.iload_n 1, 1) := by decide +kernel
theorem dX2_weigh_1 : decode cX2_weigh 1 = .ok (.aload_n 0, 1) := by decide +kernel
theorem dX2_weigh_2 : decode cX2_weigh 2 = .ok (.getfield 9, 3) := by decide +kernel
theorem dX2_weigh_5 : decode cX2_weigh 5 = .ok (.if_icmp .ge 28, 3) := by decide +kernel
theorem dX2_weigh_8 : decode cX2_weigh 8 = .ok (.aload_n 0, 1) := by decide +kernel
theorem dX2_weigh_9 : decode cX2_weigh 9 = .ok (.iload_n 1, 1) := by decide +kernel
theorem dX2_weigh_10 : decode cX2_weigh 10 = .ok (.putfield 9, 3) := by decide +kernel
theorem dX2_weigh_13 : decode cX2_weigh 13 = .ok (.aload_n 0, 1) := by decide +kernel
theorem dX2_weigh_14 : decode cX2_weigh 14 = .ok (.bipush 10, 2) := by decide +kernel
theorem dX2_weigh_16 : decode cX2_weigh 16 = .ok (.iload_n 2, 1) := by decide +kernel
theorem dX2_weigh_17 : decode cX2_weigh 17 = .ok (.imul, 1) := by decide +kernel
theorem dX2_weigh_18 : decode cX2_weigh 18 = .ok (.iload_n 3, 1) := by decide +kernel
theorem dX2_weigh_19 : decode cX2_weigh 19 = .ok (.iadd, 1) := by decide +kernel
theorem dX2_weigh_20 : decode cX2_weigh 20 = .ok (.putfield 15, 3) := by decide +kernel
theorem dX2_weigh_23 : decode cX2_weigh 23 = .ok (.aload_n 0, 1) := by decide +kernel
theorem dX2_weigh_24 : decode cX2_weigh 24 = .ok (.iconst 0, 1) := by decide +kernel
theorem dX2_weigh_25 : decode cX2_weigh 25 = .ok (.putfield 18, 3) := by decide +kernel
theorem dX2_weigh_28 : decode cX2_weigh 28 = .ok (.aload_n 0, 1) := by decide +kernel
theorem dX2_weigh_29 : decode cX2_weigh 29 = .ok (.iconst 0, 1) := by decide +kernel
theorem dX2_weigh_30 : decode cX2_weigh 30 = .ok (.putfield 21, 3) := by decide +kernel
theorem dX2_weigh_33 : decode cX2_weigh 33 = .ok (.iload_n 1, 1) := by decide +kernel
theorem dX2_weigh_34 : decode cX2_weigh 34 = .ok (.aload_n 0, 1) := by decide +kernel
theorem dX2_weigh_35 : decode cX2_weigh 35 = .ok (.getfield 9, 3) := by decide +kernel
theorem dX2_weigh_38 : decode cX2_weigh 38 = .ok (.if_icmp .ne 31, 3) := by decide +kernel
theorem dX2_weigh_41 : decode cX2_weigh 41 = .ok (.aload_n 0, 1) := by decide +kernel
theorem dX2_weigh_42 : decode cX2_weigh 42 = .ok (.dup, 1) := by decide +kernel
theorem dX2_weigh_43 : decode cX2_weigh 43 = .ok (.getfield 18, 3) := by decide +kernel
theorem dX2_weigh_46 : decode cX2_weigh 46 = .ok (.iconst 1, 1) := by decide +kernel
theorem dX2_weigh_47 : decode cX2_weigh 47 = .ok (.iadd, 1) := by decide +kernel
theorem dX2_weigh_48 : decode cX2_weigh 48 = .ok (.putfield 18, 3) := by decide +kernel
theorem dX2_weigh_51 : decode cX2_weigh 51 = .ok (.aload_n 0, 1) := by decide +kernel
theorem dX2_weigh_52 : decode cX2_weigh 52 = .ok (.dup, 1) := by decide +kernel
theorem dX2_weigh_53 : decode cX2_weigh 53 = .ok (.getfield 21, 3) := by decide +kernel
theorem dX2_weigh_56 : decode cX2_weigh 56 = .ok (.iload_n 3, 1) := by decide +kernel
theorem dX2_weigh_57 : decode cX2_weigh 57 = .ok (.ifCond .le 7, 3) := by decide +kernel
theorem dX2_weigh_60 : decode cX2_weigh 60 = .ok (.iconst 1, 1) := by decide +kernel
theorem dX2_weigh_61 : decode cX2_weigh 61 = .ok (.goto 4, 3) := by decide +kernel
theorem dX2_weigh_64 : decode cX2_weigh 64 = .ok (.iconst 0, 1) := by decide +kernel
theorem dX2_weigh_65 : decode cX2_weigh 65 = .ok (.iadd, 1) := by decide +kernel
theorem dX2_weigh_66 : decode cX2_weigh 66 = .ok (.putfield 21, 3) := by decide +kernel
theorem dX2_weigh_69 : decode cX2_weigh 69 = .ok (.return_, 1) := by decide +kernel
theorem dX2_offOf_0 : decode cX2_offOf 0 = .ok (.aload_n 1, 1) := by decide +kernel
theorem dX2_offOf_1 : decode cX2_offOf 1 = .ok (.iload_n 3, 1) := by decide +kernel
theorem dX2_offOf_2 : decode cX2_offOf 2 = .ok (.aload_n 2, 1) := by decide +kernel
theorem dX2_offOf_3 : decode cX2_offOf 3 = .ok (.getfield 47, 3) := by decide +kernel
theorem dX2_offOf_6 : decode cX2_offOf 6 = .ok (.iconst 0, 1) := by decide +kernel
theorem dX2_offOf_7 : decode cX2_offOf 7 = .ok (.iaload, 1) := by decide +kernel
theorem dX2_offOf_8 : decode cX2_offOf 8 = .ok (.iconst 0, 1) := by decide +kernel
theorem dX2_offOf_9 : decode cX2_offOf 9 = .ok (.invokevirtual 52, 3) := by decide +kernel
theorem dX2_offOf_12 : decode cX2_offOf 12 = .ok (.iconst 0, 1) := by decide +kernel
theorem dX2_offOf_13 : decode cX2_offOf 13 = .ok (.istore 4, 2) := by decide +kernel
theorem dX2_offOf_15 : decode cX2_offOf 15 = .ok (.iconst 1, 1) := by decide +kernel
theorem dX2_offOf_16 : decode cX2_offOf 16 = .ok (.istore 5, 2) := by decide +kernel
theorem dX2_offOf_18 : decode cX2_offOf 18 = .ok (.iload 5, 2) := by decide +kernel
theorem dX2_offOf_20 : decode cX2_offOf 20 = .ok (.aload_n 2, 1) := by decide +kernel
theorem dX2_offOf_21 : decode cX2_offOf 21 = .ok (.getfield 55, 3) := by decide +kernel
theorem dX2_offOf_24 : decode cX2_offOf 24 = .ok (.if_icmp .ge 58, 3) := by decide +kernel
theorem dX2_offOf_27 : decode cX2_offOf 27 = .ok (.iload 4, 2) := by decide +kernel
theorem dX2_offOf_29 : decode cX2_offOf 29 = .ok (.aload_n 0, 1) := by decide +kernel
theorem dX2_offOf_30 : decode cX2_offOf 30 = .ok (.getfield 9, 3) := by decide +kernel
theorem dX2_offOf_33 : decode cX2_offOf 33 = .ok (.if_icmp .gt 49, 3) := by decide +kernel
theorem dX2_offOf_36 : decode cX2_offOf 36 = .ok (.aload_n 1, 1) := by decide +kernel
theorem dX2_offOf_37 : decode cX2_offOf 37 = .ok (.invokevirtual 58, 3) := by decide +kernel
theorem dX2_offOf_40 : decode cX2_offOf 40 = .ok (.pop, 1) := by decide +kernel
theorem dX2_offOf_41 : decode cX2_offOf 41 = .ok (.aload_n 1, 1) := by decide +kernel
theorem dX2_offOf_42 : decode cX2_offOf 42 = .ok (.getfield 62, 3) := by decide +kernel
theorem dX2_offOf_45 : decode cX2_offOf 45 = .ok (.ifCond .ne 10, 3) := by decide +kernel
theorem dX2_offOf_48 : decode cX2_offOf 48 = .ok (.aload_n 1, 1) := by decide +kernel
theorem dX2_offOf_49 : decode cX2_offOf 49 = .ok (.getfield 65, 3) := by decide +kernel
theorem dX2_offOf_52 : decode cX2_offOf 52 = .ok (.goto 4, 3) := by decide +kernel
theorem dX2_offOf_55 : decode cX2_offOf 55 = .ok (.iconst 0, 1) := by decide +kernel
theorem dX2_offOf_56 : decode cX2_offOf 56 = .ok (.istore 6, 2) := by decide +kernel
theorem dX2_offOf_58 : decode cX2_offOf 58 = .ok (.iload 4, 2) := by decide +kernel
theorem dX2_offOf_60 : decode cX2_offOf 60 = .ok (.iload 6, 2) := by decide +kernel
theorem dX2_offOf_62 : decode cX2_offOf 62 = .ok (.aload_n 2, 1) := by decide +kernel
theorem dX2_offOf_63 : decode cX2_offOf 63 = .ok (.getfield 47, 3) := by decide +kernel
theorem dX2_offOf_66 : decode cX2_offOf 66 = .ok (.iload 5, 2) := by decide +kernel
theorem dX2_offOf_68 : decode cX2_offOf 68 = .ok (.iaload, 1) := by decide +kernel
theorem dX2_offOf_69 : decode cX2_offOf 69 = .ok (.isub, 1) := by decide +kernel
theorem dX2_offOf_70 : decode cX2_offOf 70 = .ok (.invokestatic 68, 3) := by decide +kernel
theorem dX2_offOf_73 : decode cX2_offOf 73 = .ok (.iadd, 1) := by decide +kernel
theorem dX2_offOf_74 : decode cX2_offOf 74 = .ok (.istore 4, 2) := by decide +kernel
theorem dX2_offOf_76 : decode cX2_offOf 76 = .ok (.iinc 5 1, 3) := by decide +kernel
theorem dX2_offOf_79 : decode cX2_offOf 79 = .ok (.goto (-61), 3) := by decide +kernel
theorem dX2_offOf_82 : decode cX2_offOf 82 = .ok (.iload 4, 2) := by decide +kernel
theorem dX2_offOf_84 : decode cX2_offOf 84 = .ok (.ireturn, 1) := by decide +kernel
theorem dX3_init_0 : decode cX3_init 0 = .ok (.aload_n 0, 1) := by decide +kernel
theorem dX3_init_1 : decode cX3_init 1 = .ok (.invokespecial 3, 3) := by decide +kernel
theorem dX3_init_4 : decode cX3_init 4 = .ok (.aload_n 0, 1) := by decide +kernel
theorem dX3_init_5 : decode cX3_init 5 = .ok (.bipush 100, 2) := by decide +kernel
theorem dX3_init_7 : decode cX3_init 7 = .ok (.newarray .int, 2) := by decide +kernel
theorem dX3_init_9 : decode cX3_init 9 = .ok (.putfield 9, 3) := by decide +kernel
theorem dX3_init_12 : decode cX3_init 12 = .ok (.aload_n 0, 1) := by decide +kernel
theorem dX3_init_13 : decode cX3_init 13 = .ok (.iconst 1, 1) := by decide +kernel
theorem dX3_init_14 : decode cX3_init 14 = .ok (.putfield 15, 3) := by decide +kernel
theorem dX3_init_17 : decode cX3_init 17 = .ok (.aload_n 0, 1) := by decide +kernel
theorem dX3_init_18 : decode cX3_init 18 = .ok (.iconst 0, 1) := by decide +kernel
theorem dX3_init_19 : decode cX3_init 19 = .ok (.putfield 19, 3) := by decide +kernel
theorem dX3_init_22 : decode cX3_init 22 = .ok (.return_, 1) := by decide +kernel
theorem dX3_clear_0 : decode cX3_clear 0 = .ok (.aload_n 0, 1) := by decide +kernel
theorem dX3_clear_1 : decode cX3_clear 1 = .ok (.getfield 9, 3) := by decide +kernel
theorem dX3_clear_4 : decode cX3_clear 4 = .ok (.iconst 0, 1) := by decide +kernel
theorem dX3_clear_5 : decode cX3_clear 5 = .ok (.invokestatic 23, 3) := by decide +kernel
theorem dX3_clear_8 : decode cX3_clear 8 = .ok (.aload_n 0, 1) := by decide +kernel
theorem dX3_clear_9 : decode cX3_clear 9 = .ok (.iconst 1, 1) := by decide +kernel
theorem dX3_clear_10 : decode cX3_clear 10 = .ok (.putfield 15, 3) := by decide +kernel
theorem dX3_clear_13 : decode cX3_clear 13 = .ok (.return_, 1) := by decide +kernel
theorem dX3_take_0 : decode cX3_take 0 = .ok (.aload_n 1, 1) := by decide +kernel
theorem dX3_take_1 : decode cX3_take 1 = .ok (.getfield 9, 3) := by decide +kernel
theorem dX3_take_4 : decode cX3_take 4 = .ok (.iconst 0, 1) := by decide +kernel
theorem dX3_take_5 : decode cX3_take 5 = .ok (.aload_n 0, 1) := by decide +kernel
theorem dX3_take_6 : decode cX3_take 6 = .ok (.getfield 9, 3) := by decide +kernel
theorem dX3_take_9 : decode cX3_take 9 = .ok (.iconst 0, 1) := by decide +kernel
theorem dX3_take_10 : decode cX3_take 10 = .ok (.bipush 100, 2) := by decide +kernel
theorem dX3_take_12 : decode cX3_take 12 = .ok (.invokestatic 29, 3) := by decide +kernel
theorem dX3_take_15 : decode cX3_take 15 = .ok (.aload_n 0, 1) := by decide +kernel
theorem dX3_take_16 : decode cX3_take 16 = .ok (.aload_n 1, 1) := by decide +kernel
theorem dX3_take_17 : decode cX3_take 17 = .ok (.getfield 15, 3) := by decide +kernel
theorem dX3_take_20 : decode cX3_take 20 = .ok (.putfield 15, 3) := by decide +kernel
theorem dX3_take_23 : decode cX3_take 23 = .ok (.return_, 1) := by decide +kernel
theorem dX3_bumpsOf_0 : decode cX3_bumpsOf 0 = .ok (.iload_n 1, 1) := by decide +kernel
theorem dX3_bumpsOf_1 : decode cX3_bumpsOf 1 = .ok (.iconst 0, 1) := by decide +kernel
theorem dX3_bumpsOf_2 : decode cX3_bumpsOf 2 = .ok (.bipush 99, 2) := by decide +kernel
theorem dX3_bumpsOf_4 : decode cX3_bumpsOf 4 = .ok (.invokestatic 35, 3) := by decide +kernel
theorem dX3_bumpsOf_7 : decode cX3_bumpsOf 7 = .ok (.ifCond .eq 7, 3) := by decide +kernel
theorem dX3_bumpsOf_10 : decode cX3_bumpsOf 10 = .ok (.iconst 0, 1) := by decide +kernel
theorem dX3_bumpsOf_11 : decode cX3_bumpsOf 11 = .ok (.goto 9, 3) := by decide +kernel
theorem dX3_bumpsOf_14 : decode cX3_bumpsOf 14 = .ok (.aload_n 0, 1) := by decide +kernel
theorem dX3_bumpsOf_15 : decode cX3_bumpsOf 15 = .ok (.getfield 9, 3) := by decide +kernel
theorem dX3_bumpsOf_18 : decode cX3_bumpsOf 18 = .ok (.iload_n 1, 1) := by decide +kernel
theorem dX3_bumpsOf_19 : decode cX3_bumpsOf 19 = .ok (.iaload, 1) := by decide +kernel
theorem dX3_bumpsOf_20 : decode cX3_bumpsOf 20 = .ok (.ireturn, 1) := by decide +kernel
theorem dX3_digestOn_0 : decode cX3_digestOn 0 = .ok (.aload_n 0, 1) := by decide +kernel
theorem dX3_digestOn_1 : decode cX3_digestOn 1 = .ok (.getfield 19, 3) := by decide +kernel
theorem dX3_digestOn_4 : decode cX3_digestOn 4 = .ok (.ifCond .ne 11, 3) := by decide +kernel
theorem dX3_digestOn_7 : decode cX3_digestOn 7 = .ok (.ldc2_w 39, 3) := by decide +kernel
theorem dX3_digestOn_10 : decode cX3_digestOn 10 = .ok (.lload_n 1, 1) := by decide +kernel
theorem dX3_digestOn_11 : decode cX3_digestOn 11 = .ok (.lmul, 1) := by decide +kernel
theorem dX3_digestOn_12 : decode cX3_digestOn 12 = .ok (.lconst 1, 1) := by decide +kernel
theorem dX3_digestOn_13 : decode cX3_digestOn 13 = .ok (.lsub, 1) := by decide +kernel
theorem dX3_digestOn_14 : decode cX3_digestOn 14 = .ok (.lreturn, 1) := by decide +kernel
theorem dX3_digestOn_15 : decode cX3_digestOn 15 = .ok (.ldc2_w 39, 3) := by decide +kernel
theorem dX3_digestOn_18 : decode cX3_digestOn 18 = .ok (.lload_n 1, 1) := by decide +kernel
theorem dX3_digestOn_19 : decode cX3_digestOn 19 = .ok (.lmul, 1) := by decide +kernel
theorem dX3_digestOn_20 : decode cX3_digestOn 20 = .ok (.aload_n 0, 1) := by decide +kernel
theorem dX3_digestOn_21 : decode cX3_digestOn 21 = .ok (.getfield 15, 3) := by decide +kernel
theorem dX3_digestOn_24 : decode cX3_digestOn 24 = .ok (.i2l, 1) := by decide +kernel
theorem dX3_digestOn_25 : decode cX3_digestOn 25 = .ok (.ladd, 1) := by decide +kernel
theorem dX3_digestOn_26 : decode cX3_digestOn 26 = .ok (.lstore_n 3, 1) := by decide +kernel
theorem dX3_digestOn_27 : decode cX3_digestOn 27 = .ok (.iconst 0, 1) := by decide +kernel
theorem dX3_digestOn_28 : decode cX3_digestOn 28 = .ok (.istore 5, 2) := by decide +kernel
theorem dX3_digestOn_30 : decode cX3_digestOn 30 = .ok (.iload 5, 2) := by decide +kernel
theorem dX3_digestOn_32 : decode cX3_digestOn 32 = .ok (.bipush 100, 2) := by decide +kernel
theorem dX3_digestOn_34 : decode cX3_digestOn 34 = .ok (.if_icmp .ge 24, 3) := by decide +kernel
theorem dX3_digestOn_37 : decode cX3_digestOn 37 = .ok (.ldc2_w 39, 3) := by decide +kernel
theorem dX3_digestOn_40 : decode cX3_digestOn 40 = .ok (.lload_n 3, 1) := by decide +kernel
theorem dX3_digestOn_41 : decode cX3_digestOn 41 = .ok (.lmul, 1) := by decide +kernel
theorem dX3_digestOn_42 : decode cX3_digestOn 42 = .ok (.aload_n 0, 1) := by decide +kernel
theorem dX3_digestOn_43 : decode cX3_digestOn 43 = .ok (.getfield 9, 3) := by decide +kernel
theorem dX3_digestOn_46 : decode cX3_digestOn 46 = .ok (.iload 5, 2) := by decide +kernel
theorem dX3_digestOn_48 : decode cX3_digestOn 48 = .ok (.iaload, 1) := by decide +kernel
theorem dX3_digestOn_49 : decode cX3_digestOn 49 = .ok (.i2l, 1) := by decide +kernel
theorem dX3_digestOn_50 : decode cX3_digestOn 50 = .ok (.ladd, 1) := by decide +kernel
theorem dX3_digestOn_51 : decode cX3_digestOn 51 = .ok (.lstore_n 3, 1) := by decide +kernel
theorem dX3_digestOn_52 : decode cX3_digestOn 52 = .ok (.iinc 5 1, 3) := by decide +kernel
theorem dX3_digestOn_55 : decode cX3_digestOn 55 = .ok (.goto (-25), 3) := by decide +kernel
theorem dX3_digestOn_58 : decode cX3_digestOn 58 = .ok (.lload_n 3, 1) := by decide +kernel
theorem dX3_digestOn_59 : decode cX3_digestOn 59 = .ok (.lreturn, 1) := by decide +kernel
theorem dX4_init_0 : decode cX4_init 0 = .ok (.aload_n 0, 1) := by decide +kernel
theorem dX4_init_1 : decode cX4_init 1 = .ok (.invokespecial 3, 3) := by decide +kernel
theorem dX4_init_4 : decode cX4_init 4 = .ok (.aload_n 0, 1) := by decide +kernel
theorem dX4_init_5 : decode cX4_init 5 = .ok (.new 9, 3) := by decide +kernel
theorem dX4_init_8 : decode cX4_init 8 = .ok (.dup, 1) := by decide +kernel
theorem dX4_init_9 : decode cX4_init 9 = .ok (.invokespecial 11, 3) := by decide +kernel
theorem dX4_init_12 : decode cX4_init 12 = .ok (.putfield 12, 3) := by decide +kernel
theorem dX4_init_15 : decode cX4_init 15 = .ok (.aload_n 0, 1) := by decide +kernel
theorem dX4_init_16 : decode cX4_init 16 = .ok (.new 18, 3) := by decide +kernel
theorem dX4_init_19 : decode cX4_init 19 = .ok (.dup, 1) := by decide +kernel
theorem dX4_init_20 : decode cX4_init 20 = .ok (.invokespecial 20, 3) := by decide +kernel
theorem dX4_init_23 : decode cX4_init 23 = .ok (.putfield 21, 3) := by decide +kernel
theorem dX4_init_26 : decode cX4_init 26 = .ok (.aload_n 0, 1) := by decide +kernel
theorem dX4_init_27 : decode cX4_init 27 = .ok (.iconst 0, 1) := by decide +kernel
theorem dX4_init_28 : decode cX4_init 28 = .ok (.putfield 25, 3) := by decide +kernel
theorem dX4_init_31 : decode cX4_init 31 = .ok (.aload_n 0, 1) := by decide +kernel
theorem dX4_init_32 : decode cX4_init 32 = .ok (.bipush (-9), 2) := by decide +kernel
theorem dX4_init_34 : decode cX4_init 34 = .ok (.putfield 29, 3) := by decide +kernel
theorem dX4_init_37 : decode cX4_init 37 = .ok (.return_, 1) := by decide +kernel
theorem dX4_readDuck_0 : decode cX4_readDuck 0 = .ok (.aload_n 0, 1) := by decide +kernel
theorem dX4_readDuck_1 : decode cX4_readDuck 1 = .ok (.getfield 12, 3) := by decide +kernel
theorem dX4_readDuck_4 : decode cX4_readDuck 4 = .ok (.invokevirtual 32, 3) := by decide +kernel
theorem dX4_readDuck_7 : decode cX4_readDuck 7 = .ok (.aload_n 0, 1) := by decide +kernel
theorem dX4_readDuck_8 : decode cX4_readDuck 8 = .ok (.bipush (-9), 2) := by decide +kernel
theorem dX4_readDuck_10 : decode cX4_readDuck 10 = .ok (.putfield 29, 3) := by decide +kernel
theorem dX4_readDuck_13 : decode cX4_readDuck 13 = .ok (.iconst 0, 1) := by decide +kernel
theorem dX4_readDuck_14 : decode cX4_readDuck 14 = .ok (.istore_n 2, 1) := by decide +kernel
theorem dX4_readDuck_15 : decode cX4_readDuck 15 = .ok (.iconst 0, 1) := by decide +kernel
theorem dX4_readDuck_16 : decode cX4_readDuck 16 = .ok (.istore_n 3, 1) := by decide +kernel
theorem dX4_readDuck_17 : decode cX4_readDuck 17 = .ok (.iload_n 3, 1) := by decide +kernel
theorem dX4_readDuck_18 : decode cX4_readDuck 18 = .ok (.bipush 80, 2) := by decide +kernel
theorem dX4_readDuck_20 : decode cX4_readDuck 20 = .ok (.if_icmp .ge 49, 3) := by decide +kernel
theorem dX4_readDuck_23 : decode cX4_readDuck 23 = .ok (.iload_n 2, 1) := by decide +kernel
theorem dX4_readDuck_24 : decode cX4_readDuck 24 = .ok (.aload_n 1, 1) := by decide +kernel
theorem dX4_readDuck_25 : decode cX4_readDuck 25 = .ok (.getfield 35, 3) := by decide +kernel
theorem dX4_readDuck_28 : decode cX4_readDuck 28 = .ok (.if_icmp .ge 41, 3) := by decide +kernel
theorem dX4_readDuck_31 : decode cX4_readDuck 31 = .ok (.aload_n 0, 1) := by decide +kernel
theorem dX4_readDuck_32 : decode cX4_readDuck 32 = .ok (.getfield 29, 3) := by decide +kernel
theorem dX4_readDuck_35 : decode cX4_readDuck 35 = .ok (.bipush (-9), 2) := by decide +kernel
theorem dX4_readDuck_37 : decode cX4_readDuck 37 = .ok (.if_icmp .ne 32, 3) := by decide +kernel
theorem dX4_readDuck_40 : decode cX4_readDuck 40 = .ok (.aload_n 1, 1) := by decide +kernel
theorem dX4_readDuck_41 : decode cX4_readDuck 41 = .ok (.iload_n 2, 1) := by decide +kernel
theorem dX4_readDuck_42 : decode cX4_readDuck 42 = .ok (.invokevirtual 40, 3) := by decide +kernel
theorem dX4_readDuck_45 : decode cX4_readDuck 45 = .ok (.bipush 32, 2) := by decide +kernel
theorem dX4_readDuck_47 : decode cX4_readDuck 47 = .ok (.if_icmp .ne 9, 3) := by decide +kernel
theorem dX4_readDuck_50 : decode cX4_readDuck 50 = .ok (.iload_n 2, 1) := by decide +kernel
theorem dX4_readDuck_51 : decode cX4_readDuck 51 = .ok (.iconst 1, 1) := by decide +kernel
theorem dX4_readDuck_52 : decode cX4_readDuck 52 = .ok (.iadd, 1) := by decide +kernel
theorem dX4_readDuck_53 : decode cX4_readDuck 53 = .ok (.goto 9, 3) := by decide +kernel
theorem dX4_readDuck_56 : decode cX4_readDuck 56 = .ok (.aload_n 0, 1) := by decide +kernel
theorem dX4_readDuck_57 : decode cX4_readDuck 57 = .ok (.aload_n 1, 1) := by decide +kernel
theorem dX4_readDuck_58 : decode cX4_readDuck 58 = .ok (.iload_n 2, 1) := by decide +kernel
theorem dX4_readDuck_59 : decode cX4_readDuck 59 = .ok (.invokevirtual 44, 3) := by decide +kernel
theorem dX4_readDuck_62 : decode cX4_readDuck 62 = .ok (.istore_n 2, 1) := by decide +kernel
theorem dX4_readDuck_63 : decode cX4_readDuck 63 = .ok (.iinc 3 1, 3) := by decide +kernel
theorem dX4_readDuck_66 : decode cX4_readDuck 66 = .ok (.goto (-49), 3) := by decide +kernel
theorem dX4_readDuck_69 : decode cX4_readDuck 69 = .ok (.aload_n 0, 1) := by decide +kernel
theorem dX4_readDuck_70 : decode cX4_readDuck 70 = .ok (.getfield 29, 3) := by decide +kernel
theorem dX4_readDuck_73 : decode cX4_readDuck 73 = .ok (.ireturn, 1) := by decide +kernel
theorem dX4_readPlank_0 : decode cX4_readPlank 0 = .ok (.aload_n 0, 1) := by decide +kernel
theorem dX4_readPlank_1 : decode cX4_readPlank 1 = .ok (.getfield 21, 3) := by decide +kernel
theorem dX4_readPlank_4 : decode cX4_readPlank 4 = .ok (.invokevirtual 48, 3) := by decide +kernel
theorem dX4_readPlank_7 : decode cX4_readPlank 7 = .ok (.aload_n 0, 1) := by decide +kernel
theorem dX4_readPlank_8 : decode cX4_readPlank 8 = .ok (.iconst 0, 1) := by decide +kernel
theorem dX4_readPlank_9 : decode cX4_readPlank 9 = .ok (.putfield 25, 3) := by decide +kernel
theorem dX4_readPlank_12 : decode cX4_readPlank 12 = .ok (.aload_n 0, 1) := by decide +kernel
theorem dX4_readPlank_13 : decode cX4_readPlank 13 = .ok (.bipush (-9), 2) := by decide +kernel
theorem dX4_readPlank_15 : decode cX4_readPlank 15 = .ok (.putfield 29, 3) := by decide +kernel
theorem dX4_readPlank_18 : decode cX4_readPlank 18 = .ok (.iconst 0, 1) := by decide +kernel
theorem dX4_readPlank_19 : decode cX4_readPlank 19 = .ok (.istore_n 2, 1) := by decide +kernel
theorem dX4_readPlank_20 : decode cX4_readPlank 20 = .ok (.iconst 0, 1) := by decide +kernel
theorem dX4_readPlank_21 : decode cX4_readPlank 21 = .ok (.istore_n 3, 1) := by decide +kernel
theorem dX4_readPlank_22 : decode cX4_readPlank 22 = .ok (.iload_n 3, 1) := by decide +kernel
theorem dX4_readPlank_23 : decode cX4_readPlank 23 = .ok (.bipush 80, 2) := by decide +kernel
theorem dX4_readPlank_25 : decode cX4_readPlank 25 = .ok (.if_icmp .ge 85, 3) := by decide +kernel
theorem dX4_readPlank_28 : decode cX4_readPlank 28 = .ok (.iload_n 2, 1) := by decide +kernel
theorem dX4_readPlank_29 : decode cX4_readPlank 29 = .ok (.aload_n 1, 1) := by decide +kernel
theorem dX4_readPlank_30 : decode cX4_readPlank 30 = .ok (.getfield 35, 3) := by decide +kernel
theorem dX4_readPlank_33 : decode cX4_readPlank 33 = .ok (.if_icmp .ge 77, 3) := by decide +kernel
theorem dX4_readPlank_36 : decode cX4_readPlank 36 = .ok (.aload_n 0, 1) := by decide +kernel
theorem dX4_readPlank_37 : decode cX4_readPlank 37 = .ok (.getfield 29, 3) := by decide +kernel
theorem dX4_readPlank_40 : decode cX4_readPlank 40 = .ok (.bipush (-9), 2) := by decide +kernel
theorem dX4_readPlank_42 : decode cX4_readPlank 42 = .ok (.if_icmp .ne 68, 3) := by decide +kernel
theorem dX4_readPlank_45 : decode cX4_readPlank 45 = .ok (.aload_n 1, 1) := by decide +kernel
theorem dX4_readPlank_46 : decode cX4_readPlank 46 = .ok (.iload_n 2, 1) := by decide +kernel
theorem dX4_readPlank_47 : decode cX4_readPlank 47 = .ok (.invokevirtual 40, 3) := by decide +kernel
theorem dX4_readPlank_50 : decode cX4_readPlank 50 = .ok (.istore 4, 2) := by decide +kernel
theorem dX4_readPlank_52 : decode cX4_readPlank 52 = .ok (.iload 4, 2) := by decide +kernel
theorem dX4_readPlank_54 : decode cX4_readPlank 54 = .ok (.bipush 32, 2) := by decide +kernel
theorem dX4_readPlank_56 : decode cX4_readPlank 56 = .ok (.if_icmp .ne 9, 3) := by decide +kernel
theorem dX4_readPlank_59 : decode cX4_readPlank 59 = .ok (.iinc 2 1, 3) := by decide +kernel
theorem dX4_readPlank_62 : decode cX4_readPlank 62 = .ok (.goto 42, 3) := by decide +kernel
theorem dX4_readPlank_65 : decode cX4_readPlank 65 = .ok (.iload 4, 2) := by decide +kernel
theorem dX4_readPlank_67 : decode cX4_readPlank 67 = .ok (.bipush 117, 2) := by decide +kernel
theorem dX4_readPlank_69 : decode cX4_readPlank 69 = .ok (.if_icmp .ne 13, 3) := by decide +kernel
theorem dX4_readPlank_72 : decode cX4_readPlank 72 = .ok (.aload_n 0, 1) := by decide +kernel
theorem dX4_readPlank_73 : decode cX4_readPlank 73 = .ok (.aload_n 1, 1) := by decide +kernel
theorem dX4_readPlank_74 : decode cX4_readPlank 74 = .ok (.iload_n 2, 1) := by decide +kernel
theorem dX4_readPlank_75 : decode cX4_readPlank 75 = .ok (.invokevirtual 49, 3) := by decide +kernel
theorem dX4_readPlank_78 : decode cX4_readPlank 78 = .ok (.istore_n 2, 1) := by decide +kernel
theorem dX4_readPlank_79 : decode cX4_readPlank 79 = .ok (.goto 25, 3) := by decide +kernel
theorem dX4_readPlank_82 : decode cX4_readPlank 82 = .ok (.iload 4, 2) := by decide +kernel
theorem dX4_readPlank_84 : decode cX4_readPlank 84 = .ok (.bipush 98, 2) := by decide +kernel
theorem dX4_readPlank_86 : decode cX4_readPlank 86 = .ok (.if_icmp .ne 13, 3) := by decide +kernel
theorem dX4_readPlank_89 : decode cX4_readPlank 89 = .ok (.aload_n 0, 1) := by decide +kernel
theorem dX4_readPlank_90 : decode cX4_readPlank 90 = .ok (.aload_n 1, 1) := by decide +kernel
theorem dX4_readPlank_91 : decode cX4_readPlank 91 = .ok (.iload_n 2, 1) := by decide +kernel
theorem dX4_readPlank_92 : decode cX4_readPlank 92 = .ok (.invokevirtual 52, 3) := by decide +kernel
theorem dX4_readPlank_95 : decode cX4_readPlank 95 = .ok (.istore_n 2, 1) := by decide +kernel
theorem dX4_readPlank_96 : decode cX4_readPlank 96 = .ok (.goto 8, 3) := by decide +kernel
theorem dX4_readPlank_99 : decode cX4_readPlank 99 = .ok (.aload_n 0, 1) := by decide +kernel
theorem dX4_readPlank_100 : decode cX4_readPlank 100 = .ok (.iload_n 2, 1) := by decide +kernel
theorem dX4_readPlank_101 : decode cX4_readPlank 101 = .ok (.putfield 29, 3) := by decide +kernel
theorem dX4_readPlank_104 : decode cX4_readPlank 104 = .ok (.iinc 3 1, 3) := by decide +kernel
theorem dX4_readPlank_107 : decode cX4_readPlank 107 = .ok (.goto (-85), 3) := by decide +kernel
theorem dX4_readPlank_110 : decode cX4_readPlank 110 = .ok (.aload_n 0, 1) := by decide +kernel
theorem dX4_readPlank_111 : decode cX4_readPlank 111 = .ok (.getfield 29, 3) := by decide +kernel
theorem dX4_readPlank_114 : decode cX4_readPlank 114 = .ok (.ireturn, 1) := by decide +kernel
theorem dX4_faultAt_0 : decode cX4_faultAt 0 = .ok (.aload_n 0, 1) := by decide +kernel
theorem dX4_faultAt_1 : decode cX4_faultAt 1 = .ok (.iload_n 1, 1) := by decide +kernel
theorem dX4_faultAt_2 : decode cX4_faultAt 2 = .ok (.putfield 29, 3) := by decide +kernel
theorem dX4_faultAt_5 : decode cX4_faultAt 5 = .ok (.iload_n 1, 1) := by decide +kernel
theorem dX4_faultAt_6 : decode cX4_faultAt 6 = .ok (.ireturn, 1) := by decide +kernel
theorem dX4_sizeOf_0 : decode cX4_sizeOf 0 = .ok (.iload_n 0, 1) := by decide +kernel
theorem dX4_sizeOf_1 : decode cX4_sizeOf 1 = .ok (.tableswitch 91 104 119 #[83, 87, 89, 91, 85, 91, 91, 91, 91, 91, 81, 91, 91, 91, 91, 79], 79) := by decide +kernel
theorem dX4_sizeOf_80 : decode cX4_sizeOf 80 = .ok (.iconst 0, 1) := by decide +kernel
theorem dX4_sizeOf_81 : decode cX4_sizeOf 81 = .ok (.ireturn, 1) := by decide +kernel
theorem dX4_sizeOf_82 : decode cX4_sizeOf 82 = .ok (.iconst 1, 1) := by decide +kernel
theorem dX4_sizeOf_83 : decode cX4_sizeOf 83 = .ok (.ireturn, 1) := by decide +kernel
theorem dX4_sizeOf_84 : decode cX4_sizeOf 84 = .ok (.iconst 2, 1) := by decide +kernel
theorem dX4_sizeOf_85 : decode cX4_sizeOf 85 = .ok (.ireturn, 1) := by decide +kernel
theorem dX4_sizeOf_86 : decode cX4_sizeOf 86 = .ok (.iconst 3, 1) := by decide +kernel
theorem dX4_sizeOf_87 : decode cX4_sizeOf 87 = .ok (.ireturn, 1) := by decide +kernel
theorem dX4_sizeOf_88 : decode cX4_sizeOf 88 = .ok (.iconst 4, 1) := by decide +kernel
theorem dX4_sizeOf_89 : decode cX4_sizeOf 89 = .ok (.ireturn, 1) := by decide +kernel
theorem dX4_sizeOf_90 : decode cX4_sizeOf 90 = .ok (.iconst 5, 1) := by decide +kernel
theorem dX4_sizeOf_91 : decode cX4_sizeOf 91 = .ok (.ireturn, 1) := by decide +kernel
theorem dX4_sizeOf_92 : decode cX4_sizeOf 92 = .ok (.bipush (-9), 2) := by decide +kernel
theorem dX4_sizeOf_94 : decode cX4_sizeOf 94 = .ok (.ireturn, 1) := by decide +kernel
theorem dX4_readSize_0 : decode cX4_readSize 0 = .ok (.aload_n 1, 1) := by decide +kernel
theorem dX4_readSize_1 : decode cX4_readSize 1 = .ok (.iload_n 2, 1) := by decide +kernel
theorem dX4_readSize_2 : decode cX4_readSize 2 = .ok (.invokevirtual 40, 3) := by decide +kernel
theorem dX4_readSize_5 : decode cX4_readSize 5 = .ok (.invokestatic 55, 3) := by decide +kernel
theorem dX4_readSize_8 : decode cX4_readSize 8 = .ok (.istore_n 3, 1) := by decide +kernel
theorem dX4_readSize_9 : decode cX4_readSize 9 = .ok (.iload_n 3, 1) := by decide +kernel
theorem dX4_readSize_10 : decode cX4_readSize 10 = .ok (.bipush (-9), 2) := by decide +kernel
theorem dX4_readSize_12 : decode cX4_readSize 12 = .ok (.if_icmp .ne 9, 3) := by decide +kernel
theorem dX4_readSize_15 : decode cX4_readSize 15 = .ok (.aload_n 0, 1) := by decide +kernel
theorem dX4_readSize_16 : decode cX4_readSize 16 = .ok (.iload_n 2, 1) := by decide +kernel
theorem dX4_readSize_17 : decode cX4_readSize 17 = .ok (.invokevirtual 58, 3) := by decide +kernel
theorem dX4_readSize_20 : decode cX4_readSize 20 = .ok (.ireturn, 1) := by decide +kernel
theorem dX4_readSize_21 : decode cX4_readSize 21 = .ok (.iload_n 3, 1) := by decide +kernel
theorem dX4_readSize_22 : decode cX4_readSize 22 = .ok (.iconst 4, 1) := by decide +kernel
theorem dX4_readSize_23 : decode cX4_readSize 23 = .ok (.if_icmp .lt 7, 3) := by decide +kernel
theorem dX4_readSize_26 : decode cX4_readSize 26 = .ok (.iconst 1, 1) := by decide +kernel
theorem dX4_readSize_27 : decode cX4_readSize 27 = .ok (.goto 4, 3) := by decide +kernel
theorem dX4_readSize_30 : decode cX4_readSize 30 = .ok (.iconst 0, 1) := by decide +kernel
theorem dX4_readSize_31 : decode cX4_readSize 31 = .ok (.istore 4, 2) := by decide +kernel
theorem dX4_readSize_33 : decode cX4_readSize 33 = .ok (.iload 4, 2) := by decide +kernel
theorem dX4_readSize_35 : decode cX4_readSize 35 = .ok (.ifCond .ne 44, 3) := by decide +kernel
theorem dX4_readSize_38 : decode cX4_readSize 38 = .ok (.aload_n 1, 1) := by decide +kernel
theorem dX4_readSize_39 : decode cX4_readSize 39 = .ok (.iload_n 2, 1) := by decide +kernel
theorem dX4_readSize_40 : decode cX4_readSize 40 = .ok (.iconst 1, 1) := by decide +kernel
theorem dX4_readSize_41 : decode cX4_readSize 41 = .ok (.iadd, 1) := by decide +kernel
theorem dX4_readSize_42 : decode cX4_readSize 42 = .ok (.invokevirtual 40, 3) := by decide +kernel
theorem dX4_readSize_45 : decode cX4_readSize 45 = .ok (.bipush 63, 2) := by decide +kernel
theorem dX4_readSize_47 : decode cX4_readSize 47 = .ok (.if_icmp .ne 32, 3) := by decide +kernel
theorem dX4_readSize_50 : decode cX4_readSize 50 = .ok (.aload_n 0, 1) := by decide +kernel
theorem dX4_readSize_51 : decode cX4_readSize 51 = .ok (.getfield 12, 3) := by decide +kernel
theorem dX4_readSize_54 : decode cX4_readSize 54 = .ok (.getfield 61, 3) := by decide +kernel
theorem dX4_readSize_57 : decode cX4_readSize 57 = .ok (.iload_n 3, 1) := by decide +kernel
theorem dX4_readSize_58 : decode cX4_readSize 58 = .ok (.iconst 5, 1) := by decide +kernel
theorem dX4_readSize_59 : decode cX4_readSize 59 = .ok (.iastore, 1) := by decide +kernel
theorem dX4_readSize_60 : decode cX4_readSize 60 = .ok (.aload_n 0, 1) := by decide +kernel
theorem dX4_readSize_61 : decode cX4_readSize 61 = .ok (.getfield 12, 3) := by decide +kernel
theorem dX4_readSize_64 : decode cX4_readSize 64 = .ok (.dup, 1) := by decide +kernel
theorem dX4_readSize_65 : decode cX4_readSize 65 = .ok (.getfield 65, 3) := by decide +kernel
theorem dX4_readSize_68 : decode cX4_readSize 68 = .ok (.iconst 1, 1) := by decide +kernel
theorem dX4_readSize_69 : decode cX4_readSize 69 = .ok (.iload_n 3, 1) := by decide +kernel
theorem dX4_readSize_70 : decode cX4_readSize 70 = .ok (.ishl, 1) := by decide +kernel
theorem dX4_readSize_71 : decode cX4_readSize 71 = .ok (.ior, 1) := by decide +kernel
theorem dX4_readSize_72 : decode cX4_readSize 72 = .ok (.putfield 65, 3) := by decide +kernel
theorem dX4_readSize_75 : decode cX4_readSize 75 = .ok (.iload_n 2, 1) := by decide +kernel
theorem dX4_readSize_76 : decode cX4_readSize 76 = .ok (.iconst 2, 1) := by decide +kernel
theorem dX4_readSize_77 : decode cX4_readSize 77 = .ok (.iadd, 1) := by decide +kernel
theorem dX4_readSize_78 : decode cX4_readSize 78 = .ok (.ireturn, 1) := by decide +kernel
theorem dX4_readSize_79 : decode cX4_readSize 79 = .ok (.aload_n 1, 1) := by decide +kernel
theorem dX4_readSize_80 : decode cX4_readSize 80 = .ok (.iload_n 2, 1) := by decide +kernel
theorem dX4_readSize_81 : decode cX4_readSize 81 = .ok (.iconst 1, 1) := by decide +kernel
theorem dX4_readSize_82 : decode cX4_readSize 82 = .ok (.iadd, 1) := by decide +kernel
theorem dX4_readSize_83 : decode cX4_readSize 83 = .ok (.invokevirtual 68, 3) := by decide +kernel
theorem dX4_readSize_86 : decode cX4_readSize 86 = .ok (.istore 5, 2) := by decide +kernel
theorem dX4_readSize_88 : decode cX4_readSize 88 = .ok (.iload 5, 2) := by decide +kernel
theorem dX4_readSize_90 : decode cX4_readSize 90 = .ok (.iload 4, 2) := by decide +kernel
theorem dX4_readSize_92 : decode cX4_readSize 92 = .ok (.ifCond .eq 7, 3) := by decide +kernel
theorem dX4_readSize_95 : decode cX4_readSize 95 = .ok (.iconst 0, 1) := by decide +kernel
theorem dX4_readSize_96 : decode cX4_readSize 96 = .ok (.goto 4, 3) := by decide +kernel
theorem dX4_readSize_99 : decode cX4_readSize 99 = .ok (.iconst 1, 1) := by decide +kernel
theorem dX4_readSize_100 : decode cX4_readSize 100 = .ok (.if_icmp .ge 11, 3) := by decide +kernel
theorem dX4_readSize_103 : decode cX4_readSize 103 = .ok (.aload_n 0, 1) := by decide +kernel
theorem dX4_readSize_104 : decode cX4_readSize 104 = .ok (.iload_n 2, 1) := by decide +kernel
theorem dX4_readSize_105 : decode cX4_readSize 105 = .ok (.iconst 1, 1) := by decide +kernel
theorem dX4_readSize_106 : decode cX4_readSize 106 = .ok (.iadd, 1) := by decide +kernel
theorem dX4_readSize_107 : decode cX4_readSize 107 = .ok (.invokevirtual 58, 3) := by decide +kernel
theorem dX4_readSize_110 : decode cX4_readSize 110 = .ok (.ireturn, 1) := by decide +kernel
theorem dX4_readSize_111 : decode cX4_readSize 111 = .ok (.aload_n 0, 1) := by decide +kernel
theorem dX4_readSize_112 : decode cX4_readSize 112 = .ok (.getfield 12, 3) := by decide +kernel
theorem dX4_readSize_115 : decode cX4_readSize 115 = .ok (.getfield 61, 3) := by decide +kernel
theorem dX4_readSize_118 : decode cX4_readSize 118 = .ok (.iload_n 3, 1) := by decide +kernel
theorem dX4_readSize_119 : decode cX4_readSize 119 = .ok (.iload 5, 2) := by decide +kernel
theorem dX4_readSize_121 : decode cX4_readSize 121 = .ok (.iastore, 1) := by decide +kernel
theorem dX4_readSize_122 : decode cX4_readSize 122 = .ok (.aload_n 0, 1) := by decide +kernel
theorem dX4_readSize_123 : decode cX4_readSize 123 = .ok (.getfield 12, 3) := by decide +kernel
theorem dX4_readSize_126 : decode cX4_readSize 126 = .ok (.dup, 1) := by decide +kernel
theorem dX4_readSize_127 : decode cX4_readSize 127 = .ok (.getfield 65, 3) := by decide +kernel
theorem dX4_readSize_130 : decode cX4_readSize 130 = .ok (.iconst 1, 1) := by decide +kernel
theorem dX4_readSize_131 : decode cX4_readSize 131 = .ok (.iload_n 3, 1) := by decide +kernel
theorem dX4_readSize_132 : decode cX4_readSize 132 = .ok (.ishl, 1) := by decide +kernel
theorem dX4_readSize_133 : decode cX4_readSize 133 = .ok (.iconst (-1), 1) := by decide +kernel
theorem dX4_readSize_134 : decode cX4_readSize 134 = .ok (.ixor, 1) := by decide +kernel
theorem dX4_readSize_135 : decode cX4_readSize 135 = .ok (.iand, 1) := by decide +kernel
theorem dX4_readSize_136 : decode cX4_readSize 136 = .ok (.putfield 65, 3) := by decide +kernel
theorem dX4_readSize_139 : decode cX4_readSize 139 = .ok (.iload_n 2, 1) := by decide +kernel
theorem dX4_readSize_140 : decode cX4_readSize 140 = .ok (.iconst 2, 1) := by decide +kernel
theorem dX4_readSize_141 : decode cX4_readSize 141 = .ok (.iadd, 1) := by decide +kernel
theorem dX4_readSize_142 : decode cX4_readSize 142 = .ok (.ireturn, 1) := by decide +kernel
theorem dX4_readRub_0 : decode cX4_readRub 0 = .ok (.aload_n 1, 1) := by decide +kernel
theorem dX4_readRub_1 : decode cX4_readRub 1 = .ok (.iload_n 2, 1) := by decide +kernel
theorem dX4_readRub_2 : decode cX4_readRub 2 = .ok (.iconst 1, 1) := by decide +kernel
theorem dX4_readRub_3 : decode cX4_readRub 3 = .ok (.iadd, 1) := by decide +kernel
theorem dX4_readRub_4 : decode cX4_readRub 4 = .ok (.invokevirtual 68, 3) := by decide +kernel
theorem dX4_readRub_7 : decode cX4_readRub 7 = .ok (.istore_n 3, 1) := by decide +kernel
theorem dX4_readRub_8 : decode cX4_readRub 8 = .ok (.iload_n 3, 1) := by decide +kernel
theorem dX4_readRub_9 : decode cX4_readRub 9 = .ok (.ifCond .ge 11, 3) := by decide +kernel
theorem dX4_readRub_12 : decode cX4_readRub 12 = .ok (.aload_n 0, 1) := by decide +kernel
theorem dX4_readRub_13 : decode cX4_readRub 13 = .ok (.iload_n 2, 1) := by decide +kernel
theorem dX4_readRub_14 : decode cX4_readRub 14 = .ok (.iconst 1, 1) := by decide +kernel
theorem dX4_readRub_15 : decode cX4_readRub 15 = .ok (.iadd, 1) := by decide +kernel
theorem dX4_readRub_16 : decode cX4_readRub 16 = .ok (.invokevirtual 58, 3) := by decide +kernel
theorem dX4_readRub_19 : decode cX4_readRub 19 = .ok (.ireturn, 1) := by decide +kernel
theorem dX4_readRub_20 : decode cX4_readRub 20 = .ok (.aload_n 0, 1) := by decide +kernel
theorem dX4_readRub_21 : decode cX4_readRub 21 = .ok (.getfield 21, 3) := by decide +kernel
theorem dX4_readRub_24 : decode cX4_readRub 24 = .ok (.iload_n 3, 1) := by decide +kernel
theorem dX4_readRub_25 : decode cX4_readRub 25 = .ok (.putfield 71, 3) := by decide +kernel
theorem dX4_readRub_28 : decode cX4_readRub 28 = .ok (.iload_n 2, 1) := by decide +kernel
theorem dX4_readRub_29 : decode cX4_readRub 29 = .ok (.iconst 2, 1) := by decide +kernel
theorem dX4_readRub_30 : decode cX4_readRub 30 = .ok (.iadd, 1) := by decide +kernel
theorem dX4_readRub_31 : decode cX4_readRub 31 = .ok (.ireturn, 1) := by decide +kernel
theorem dX4_readBump_0 : decode cX4_readBump 0 = .ok (.aload_n 0, 1) := by decide +kernel
theorem dX4_readBump_1 : decode cX4_readBump 1 = .ok (.getfield 25, 3) := by decide +kernel
theorem dX4_readBump_4 : decode cX4_readBump 4 = .ok (.bipush 8, 2) := by decide +kernel
theorem dX4_readBump_6 : decode cX4_readBump 6 = .ok (.if_icmp .lt 9, 3) := by decide +kernel
theorem dX4_readBump_9 : decode cX4_readBump 9 = .ok (.aload_n 0, 1) := by decide +kernel
theorem dX4_readBump_10 : decode cX4_readBump 10 = .ok (.iload_n 2, 1) := by decide +kernel
theorem dX4_readBump_11 : decode cX4_readBump 11 = .ok (.invokevirtual 58, 3) := by decide +kernel
theorem dX4_readBump_14 : decode cX4_readBump 14 = .ok (.ireturn, 1) := by decide +kernel
theorem dX4_readBump_15 : decode cX4_readBump 15 = .ok (.iload_n 2, 1) := by decide +kernel
theorem dX4_readBump_16 : decode cX4_readBump 16 = .ok (.iconst 1, 1) := by decide +kernel
theorem dX4_readBump_17 : decode cX4_readBump 17 = .ok (.iadd, 1) := by decide +kernel
theorem dX4_readBump_18 : decode cX4_readBump 18 = .ok (.istore_n 3, 1) := by decide +kernel
theorem dX4_readBump_19 : decode cX4_readBump 19 = .ok (.aload_n 1, 1) := by decide +kernel
theorem dX4_readBump_20 : decode cX4_readBump 20 = .ok (.iload_n 3, 1) := by decide +kernel
theorem dX4_readBump_21 : decode cX4_readBump 21 = .ok (.invokevirtual 68, 3) := by decide +kernel
theorem dX4_readBump_24 : decode cX4_readBump 24 = .ok (.istore 4, 2) := by decide +kernel
theorem dX4_readBump_26 : decode cX4_readBump 26 = .ok (.iload 4, 2) := by decide +kernel
theorem dX4_readBump_28 : decode cX4_readBump 28 = .ok (.ifCond .ge 9, 3) := by decide +kernel
theorem dX4_readBump_31 : decode cX4_readBump 31 = .ok (.aload_n 0, 1) := by decide +kernel
theorem dX4_readBump_32 : decode cX4_readBump 32 = .ok (.iload_n 3, 1) := by decide +kernel
theorem dX4_readBump_33 : decode cX4_readBump 33 = .ok (.invokevirtual 58, 3) := by decide +kernel
theorem dX4_readBump_36 : decode cX4_readBump 36 = .ok (.ireturn, 1) := by decide +kernel
theorem dX4_readBump_37 : decode cX4_readBump 37 = .ok (.iinc 3 1, 3) := by decide +kernel
theorem dX4_readBump_40 : decode cX4_readBump 40 = .ok (.aload_n 1, 1) := by decide +kernel
theorem dX4_readBump_41 : decode cX4_readBump 41 = .ok (.iload_n 3, 1) := by decide +kernel
theorem dX4_readBump_42 : decode cX4_readBump 42 = .ok (.invokevirtual 68, 3) := by decide +kernel
theorem dX4_readBump_45 : decode cX4_readBump 45 = .ok (.ifCond .lt 19, 3) := by decide +kernel
theorem dX4_readBump_48 : decode cX4_readBump 48 = .ok (.bipush 10, 2) := by decide +kernel
theorem dX4_readBump_50 : decode cX4_readBump 50 = .ok (.iload 4, 2) := by decide +kernel
theorem dX4_readBump_52 : decode cX4_readBump 52 = .ok (.imul, 1) := by decide +kernel
theorem dX4_readBump_53 : decode cX4_readBump 53 = .ok (.aload_n 1, 1) := by decide +kernel
theorem dX4_readBump_54 : decode cX4_readBump 54 = .ok (.iload_n 3, 1) := by decide +kernel
theorem dX4_readBump_55 : decode cX4_readBump 55 = .ok (.invokevirtual 68, 3) := by decide +kernel
theorem dX4_readBump_58 : decode cX4_readBump 58 = .ok (.iadd, 1) := by decide +kernel
theorem dX4_readBump_59 : decode cX4_readBump 59 = .ok (.istore 4, 2) := by decide +kernel
theorem dX4_readBump_61 : decode cX4_readBump 61 = .ok (.iinc 3 1, 3) := by decide +kernel
theorem dX4_readBump_64 : decode cX4_readBump 64 = .ok (.aload_n 1, 1) := by decide +kernel
theorem dX4_readBump_65 : decode cX4_readBump 65 = .ok (.iload_n 3, 1) := by decide +kernel
theorem dX4_readBump_66 : decode cX4_readBump 66 = .ok (.invokevirtual 40, 3) := by decide +kernel
theorem dX4_readBump_69 : decode cX4_readBump 69 = .ok (.bipush 58, 2) := by decide +kernel
theorem dX4_readBump_71 : decode cX4_readBump 71 = .ok (.if_icmp .eq 9, 3) := by decide +kernel
theorem dX4_readBump_74 : decode cX4_readBump 74 = .ok (.aload_n 0, 1) := by decide +kernel
theorem dX4_readBump_75 : decode cX4_readBump 75 = .ok (.iload_n 3, 1) := by decide +kernel
theorem dX4_readBump_76 : decode cX4_readBump 76 = .ok (.invokevirtual 58, 3) := by decide +kernel
theorem dX4_readBump_79 : decode cX4_readBump 79 = .ok (.ireturn, 1) := by decide +kernel
theorem dX4_readBump_80 : decode cX4_readBump 80 = .ok (.iinc 3 1, 3) := by decide +kernel
theorem dX4_readBump_83 : decode cX4_readBump 83 = .ok (.aload_n 1, 1) := by decide +kernel
theorem dX4_readBump_84 : decode cX4_readBump 84 = .ok (.iload_n 3, 1) := by decide +kernel
theorem dX4_readBump_85 : decode cX4_readBump 85 = .ok (.invokevirtual 68, 3) := by decide +kernel
theorem dX4_readBump_88 : decode cX4_readBump 88 = .ok (.istore 5, 2) := by decide +kernel
theorem dX4_readBump_90 : decode cX4_readBump 90 = .ok (.iload 5, 2) := by decide +kernel
theorem dX4_readBump_92 : decode cX4_readBump 92 = .ok (.iconst 1, 1) := by decide +kernel
theorem dX4_readBump_93 : decode cX4_readBump 93 = .ok (.if_icmp .ge 9, 3) := by decide +kernel
theorem dX4_readBump_96 : decode cX4_readBump 96 = .ok (.aload_n 0, 1) := by decide +kernel
theorem dX4_readBump_97 : decode cX4_readBump 97 = .ok (.iload_n 3, 1) := by decide +kernel
theorem dX4_readBump_98 : decode cX4_readBump 98 = .ok (.invokevirtual 58, 3) := by decide +kernel
theorem dX4_readBump_101 : decode cX4_readBump 101 = .ok (.ireturn, 1) := by decide +kernel
theorem dX4_readBump_102 : decode cX4_readBump 102 = .ok (.aload_n 0, 1) := by decide +kernel
theorem dX4_readBump_103 : decode cX4_readBump 103 = .ok (.getfield 21, 3) := by decide +kernel
theorem dX4_readBump_106 : decode cX4_readBump 106 = .ok (.getfield 74, 3) := by decide +kernel
theorem dX4_readBump_109 : decode cX4_readBump 109 = .ok (.iload 4, 2) := by decide +kernel
theorem dX4_readBump_111 : decode cX4_readBump 111 = .ok (.dup2, 1) := by decide +kernel
theorem dX4_readBump_112 : decode cX4_readBump 112 = .ok (.iaload, 1) := by decide +kernel
theorem dX4_readBump_113 : decode cX4_readBump 113 = .ok (.iload 5, 2) := by decide +kernel
theorem dX4_readBump_115 : decode cX4_readBump 115 = .ok (.iadd, 1) := by decide +kernel
theorem dX4_readBump_116 : decode cX4_readBump 116 = .ok (.iastore, 1) := by decide +kernel
theorem dX4_readBump_117 : decode cX4_readBump 117 = .ok (.aload_n 0, 1) := by decide +kernel
theorem dX4_readBump_118 : decode cX4_readBump 118 = .ok (.dup, 1) := by decide +kernel
theorem dX4_readBump_119 : decode cX4_readBump 119 = .ok (.getfield 25, 3) := by decide +kernel
theorem dX4_readBump_122 : decode cX4_readBump 122 = .ok (.iconst 1, 1) := by decide +kernel
theorem dX4_readBump_123 : decode cX4_readBump 123 = .ok (.iadd, 1) := by decide +kernel
theorem dX4_readBump_124 : decode cX4_readBump 124 = .ok (.putfield 25, 3) := by decide +kernel
theorem dX4_readBump_127 : decode cX4_readBump 127 = .ok (.iload_n 3, 1) := by decide +kernel
theorem dX4_readBump_128 : decode cX4_readBump 128 = .ok (.iconst 1, 1) := by decide +kernel
theorem dX4_readBump_129 : decode cX4_readBump 129 = .ok (.iadd, 1) := by decide +kernel
theorem dX4_readBump_130 : decode cX4_readBump 130 = .ok (.ireturn, 1) := by decide +kernel
theorem dX5_init_0 : decode cX5_init 0 = .ok (.aload_n 0, 1) := by decide +kernel
theorem dX5_init_1 : decode cX5_init 1 = .ok (.invokespecial 3, 3) := by decide +kernel
theorem dX5_init_4 : decode cX5_init 4 = .ok (.aload_n 0, 1) := by decide +kernel
theorem dX5_init_5 : decode cX5_init 5 = .ok (.bipush 60, 2) := by decide +kernel
theorem dX5_init_7 : decode cX5_init 7 = .ok (.newarray .int, 2) := by decide +kernel
theorem dX5_init_9 : decode cX5_init 9 = .ok (.putfield 9, 3) := by decide +kernel
theorem dX5_init_12 : decode cX5_init 12 = .ok (.aload_n 0, 1) := by decide +kernel
theorem dX5_init_13 : decode cX5_init 13 = .ok (.iconst (-1), 1) := by decide +kernel
theorem dX5_init_14 : decode cX5_init 14 = .ok (.putfield 15, 3) := by decide +kernel
theorem dX5_init_17 : decode cX5_init 17 = .ok (.return_, 1) := by decide +kernel
theorem dX5_isMissing_0 : decode cX5_isMissing 0 = .ok (.aload_n 0, 1) := by decide +kernel
theorem dX5_isMissing_1 : decode cX5_isMissing 1 = .ok (.getfield 15, 3) := by decide +kernel
theorem dX5_isMissing_4 : decode cX5_isMissing 4 = .ok (.ifCond .ge 7, 3) := by decide +kernel
theorem dX5_isMissing_7 : decode cX5_isMissing 7 = .ok (.iconst 1, 1) := by decide +kernel
theorem dX5_isMissing_8 : decode cX5_isMissing 8 = .ok (.goto 4, 3) := by decide +kernel
theorem dX5_isMissing_11 : decode cX5_isMissing 11 = .ok (.iconst 0, 1) := by decide +kernel
theorem dX5_isMissing_12 : decode cX5_isMissing 12 = .ok (.ireturn, 1) := by decide +kernel
theorem dX5_has_0 : decode cX5_has 0 = .ok (.iload_n 1, 1) := by decide +kernel
theorem dX5_has_1 : decode cX5_has 1 = .ok (.ifCond .lt 15, 3) := by decide +kernel
theorem dX5_has_4 : decode cX5_has 4 = .ok (.iload_n 1, 1) := by decide +kernel
theorem dX5_has_5 : decode cX5_has 5 = .ok (.aload_n 0, 1) := by decide +kernel
theorem dX5_has_6 : decode cX5_has 6 = .ok (.getfield 15, 3) := by decide +kernel
theorem dX5_has_9 : decode cX5_has 9 = .ok (.if_icmp .ge 7, 3) := by decide +kernel
theorem dX5_has_12 : decode cX5_has 12 = .ok (.iconst 1, 1) := by decide +kernel
theorem dX5_has_13 : decode cX5_has 13 = .ok (.goto 4, 3) := by decide +kernel
theorem dX5_has_16 : decode cX5_has 16 = .ok (.iconst 0, 1) := by decide +kernel
theorem dX5_has_17 : decode cX5_has 17 = .ok (.ireturn, 1) := by decide +kernel
theorem dX5_hasSpan_0 : decode cX5_hasSpan 0 = .ok (.iload_n 1, 1) := by decide +kernel
theorem dX5_hasSpan_1 : decode cX5_hasSpan 1 = .ok (.ifCond .lt 25, 3) := by decide +kernel
theorem dX5_hasSpan_4 : decode cX5_hasSpan 4 = .ok (.iload_n 1, 1) := by decide +kernel
theorem dX5_hasSpan_5 : decode cX5_hasSpan 5 = .ok (.aload_n 0, 1) := by decide +kernel
theorem dX5_hasSpan_6 : decode cX5_hasSpan 6 = .ok (.getfield 15, 3) := by decide +kernel
theorem dX5_hasSpan_9 : decode cX5_hasSpan 9 = .ok (.if_icmp .gt 17, 3) := by decide +kernel
theorem dX5_hasSpan_12 : decode cX5_hasSpan 12 = .ok (.iload_n 2, 1) := by decide +kernel
theorem dX5_hasSpan_13 : decode cX5_hasSpan 13 = .ok (.aload_n 0, 1) := by decide +kernel
theorem dX5_hasSpan_14 : decode cX5_hasSpan 14 = .ok (.getfield 15, 3) := by decide +kernel
theorem dX5_hasSpan_17 : decode cX5_hasSpan 17 = .ok (.iload_n 1, 1) := by decide +kernel
theorem dX5_hasSpan_18 : decode cX5_hasSpan 18 = .ok (.isub, 1) := by decide +kernel
theorem dX5_hasSpan_19 : decode cX5_hasSpan 19 = .ok (.if_icmp .gt 7, 3) := by decide +kernel
theorem dX5_hasSpan_22 : decode cX5_hasSpan 22 = .ok (.iconst 1, 1) := by decide +kernel
theorem dX5_hasSpan_23 : decode cX5_hasSpan 23 = .ok (.goto 4, 3) := by decide +kernel
theorem dX5_hasSpan_26 : decode cX5_hasSpan 26 = .ok (.iconst 0, 1) := by decide +kernel
theorem dX5_hasSpan_27 : decode cX5_hasSpan 27 = .ok (.ireturn, 1) := by decide +kernel
theorem dX5_renew_0 : decode cX5_renew 0 = .ok (.aload_n 0, 1) := by decide +kernel
theorem dX5_renew_1 : decode cX5_renew 1 = .ok (.getfield 9, 3) := by decide +kernel
theorem dX5_renew_4 : decode cX5_renew 4 = .ok (.iconst 0, 1) := by decide +kernel
theorem dX5_renew_5 : decode cX5_renew 5 = .ok (.invokestatic 19, 3) := by decide +kernel
theorem dX5_renew_8 : decode cX5_renew 8 = .ok (.aload_n 0, 1) := by decide +kernel
theorem dX5_renew_9 : decode cX5_renew 9 = .ok (.iload_n 1, 1) := by decide +kernel
theorem dX5_renew_10 : decode cX5_renew 10 = .ok (.putfield 15, 3) := by decide +kernel
theorem dX5_renew_13 : decode cX5_renew 13 = .ok (.return_, 1) := by decide +kernel
theorem dX5_sum_0 : decode cX5_sum 0 = .ok (.lconst 0, 1) := by decide +kernel
theorem dX5_sum_1 : decode cX5_sum 1 = .ok (.lstore_n 1, 1) := by decide +kernel
theorem dX5_sum_2 : decode cX5_sum 2 = .ok (.iconst 0, 1) := by decide +kernel
theorem dX5_sum_3 : decode cX5_sum 3 = .ok (.istore_n 3, 1) := by decide +kernel
theorem dX5_sum_4 : decode cX5_sum 4 = .ok (.iload_n 3, 1) := by decide +kernel
theorem dX5_sum_5 : decode cX5_sum 5 = .ok (.aload_n 0, 1) := by decide +kernel
theorem dX5_sum_6 : decode cX5_sum 6 = .ok (.getfield 15, 3) := by decide +kernel
theorem dX5_sum_9 : decode cX5_sum 9 = .ok (.if_icmp .ge 19, 3) := by decide +kernel
theorem dX5_sum_12 : decode cX5_sum 12 = .ok (.lload_n 1, 1) := by decide +kernel
theorem dX5_sum_13 : decode cX5_sum 13 = .ok (.aload_n 0, 1) := by decide +kernel
theorem dX5_sum_14 : decode cX5_sum 14 = .ok (.getfield 9, 3) := by decide +kernel
theorem dX5_sum_17 : decode cX5_sum 17 = .ok (.iload_n 3, 1) := by decide +kernel
theorem dX5_sum_18 : decode cX5_sum 18 = .ok (.iaload, 1) := by decide +kernel
theorem dX5_sum_19 : decode cX5_sum 19 = .ok (.i2l, 1) := by decide +kernel
theorem dX5_sum_20 : decode cX5_sum 20 = .ok (.ladd, 1) := by decide +kernel
theorem dX5_sum_21 : decode cX5_sum 21 = .ok (.lstore_n 1, 1) := by decide +kernel
theorem dX5_sum_22 : decode cX5_sum 22 = .ok (.iinc 3 1, 3) := by decide +kernel
theorem dX5_sum_25 : decode cX5_sum 25 = .ok (.goto (-21), 3) := by decide +kernel
theorem dX5_sum_28 : decode cX5_sum 28 = .ok (.lload_n 1, 1) := by decide +kernel
theorem dX5_sum_29 : decode cX5_sum 29 = .ok (.lreturn, 1) := by decide +kernel
theorem dX5_digestOn_0 : decode cX5_digestOn 0 = .ok (.ldc2_w 25, 3) := by decide +kernel
theorem dX5_digestOn_3 : decode cX5_digestOn 3 = .ok (.lload_n 1, 1) := by decide +kernel
theorem dX5_digestOn_4 : decode cX5_digestOn 4 = .ok (.lmul, 1) := by decide +kernel
theorem dX5_digestOn_5 : decode cX5_digestOn 5 = .ok (.aload_n 0, 1) := by decide +kernel
theorem dX5_digestOn_6 : decode cX5_digestOn 6 = .ok (.getfield 15, 3) := by decide +kernel
theorem dX5_digestOn_9 : decode cX5_digestOn 9 = .ok (.i2l, 1) := by decide +kernel
theorem dX5_digestOn_10 : decode cX5_digestOn 10 = .ok (.ladd, 1) := by decide +kernel
theorem dX5_digestOn_11 : decode cX5_digestOn 11 = .ok (.lstore_n 3, 1) := by decide +kernel
theorem dX5_digestOn_12 : decode cX5_digestOn 12 = .ok (.iconst 0, 1) := by decide +kernel
theorem dX5_digestOn_13 : decode cX5_digestOn 13 = .ok (.istore 5, 2) := by decide +kernel
theorem dX5_digestOn_15 : decode cX5_digestOn 15 = .ok (.iload 5, 2) := by decide +kernel
theorem dX5_digestOn_17 : decode cX5_digestOn 17 = .ok (.aload_n 0, 1) := by decide +kernel
theorem dX5_digestOn_18 : decode cX5_digestOn 18 = .ok (.getfield 15, 3) := by decide +kernel
theorem dX5_digestOn_21 : decode cX5_digestOn 21 = .ok (.if_icmp .ge 24, 3) := by decide +kernel
theorem dX5_digestOn_24 : decode cX5_digestOn 24 = .ok (.ldc2_w 25, 3) := by decide +kernel
theorem dX5_digestOn_27 : decode cX5_digestOn 27 = .ok (.lload_n 3, 1) := by decide +kernel
theorem dX5_digestOn_28 : decode cX5_digestOn 28 = .ok (.lmul, 1) := by decide +kernel
theorem dX5_digestOn_29 : decode cX5_digestOn 29 = .ok (.aload_n 0, 1) := by decide +kernel
theorem dX5_digestOn_30 : decode cX5_digestOn 30 = .ok (.getfield 9, 3) := by decide +kernel
theorem dX5_digestOn_33 : decode cX5_digestOn 33 = .ok (.iload 5, 2) := by decide +kernel
theorem dX5_digestOn_35 : decode cX5_digestOn 35 = .ok (.iaload, 1) := by decide +kernel
theorem dX5_digestOn_36 : decode cX5_digestOn 36 = .ok (.i2l, 1) := by decide +kernel
theorem dX5_digestOn_37 : decode cX5_digestOn 37 = .ok (.ladd, 1) := by decide +kernel
theorem dX5_digestOn_38 : decode cX5_digestOn 38 = .ok (.lstore_n 3, 1) := by decide +kernel
theorem dX5_digestOn_39 : decode cX5_digestOn 39 = .ok (.iinc 5 1, 3) := by decide +kernel
theorem dX5_digestOn_42 : decode cX5_digestOn 42 = .ok (.goto (-27), 3) := by decide +kernel
theorem dX5_digestOn_45 : decode cX5_digestOn 45 = .ok (.lload_n 3, 1) := by decide +kernel
theorem dX5_digestOn_46 : decode cX5_digestOn 46 = .ok (.lreturn, 1) := by decide +kernel
theorem dX6_init_0 : decode cX6_init 0 = .ok (.aload_n 0, 1) := by decide +kernel
theorem dX6_init_1 : decode cX6_init 1 = .ok (.invokespecial 3, 3) := by decide +kernel
theorem dX6_init_4 : decode cX6_init 4 = .ok (.aload_n 0, 1) := by decide +kernel
theorem dX6_init_5 : decode cX6_init 5 = .ok (.bipush 80, 2) := by decide +kernel
theorem dX6_init_7 : decode cX6_init 7 = .ok (.newarray .byte, 2) := by decide +kernel
theorem dX6_init_9 : decode cX6_init 9 = .ok (.putfield 9, 3) := by decide +kernel
theorem dX6_init_12 : decode cX6_init 12 = .ok (.aload_n 0, 1) := by decide +kernel
theorem dX6_init_13 : decode cX6_init 13 = .ok (.iconst (-1), 1) := by decide +kernel
theorem dX6_init_14 : decode cX6_init 14 = .ok (.putfield 15, 3) := by decide +kernel
theorem dX6_init_17 : decode cX6_init 17 = .ok (.return_, 1) := by decide +kernel
theorem dX6_isMissing_0 : decode cX6_isMissing 0 = .ok (.aload_n 0, 1) := by decide +kernel
theorem dX6_isMissing_1 : decode cX6_isMissing 1 = .ok (.getfield 15, 3) := by decide +kernel
theorem dX6_isMissing_4 : decode cX6_isMissing 4 = .ok (.ifCond .ge 7, 3) := by decide +kernel
theorem dX6_isMissing_7 : decode cX6_isMissing 7 = .ok (.iconst 1, 1) := by decide +kernel
theorem dX6_isMissing_8 : decode cX6_isMissing 8 = .ok (.goto 4, 3) := by decide +kernel
theorem dX6_isMissing_11 : decode cX6_isMissing 11 = .ok (.iconst 0, 1) := by decide +kernel
theorem dX6_isMissing_12 : decode cX6_isMissing 12 = .ok (.ireturn, 1) := by decide +kernel
theorem dX6_has_0 : decode cX6_has 0 = .ok (.iload_n 1, 1) := by decide +kernel
theorem dX6_has_1 : decode cX6_has 1 = .ok (.ifCond .lt 15, 3) := by decide +kernel
theorem dX6_has_4 : decode cX6_has 4 = .ok (.iload_n 1, 1) := by decide +kernel
theorem dX6_has_5 : decode cX6_has 5 = .ok (.aload_n 0, 1) := by decide +kernel
theorem dX6_has_6 : decode cX6_has 6 = .ok (.getfield 15, 3) := by decide +kernel
theorem dX6_has_9 : decode cX6_has 9 = .ok (.if_icmp .ge 7, 3) := by decide +kernel
theorem dX6_has_12 : decode cX6_has 12 = .ok (.iconst 1, 1) := by decide +kernel
theorem dX6_has_13 : decode cX6_has 13 = .ok (.goto 4, 3) := by decide +kernel
theorem dX6_has_16 : decode cX6_has 16 = .ok (.iconst 0, 1) := by decide +kernel
theorem dX6_has_17 : decode cX6_has 17 = .ok (.ireturn, 1) := by decide +kernel
theorem dX6_renew_0 : decode cX6_renew 0 = .ok (.aload_n 0, 1) := by decide +kernel
theorem dX6_renew_1 : decode cX6_renew 1 = .ok (.getfield 9, 3) := by decide +kernel
theorem dX6_renew_4 : decode cX6_renew 4 = .ok (.bipush 32, 2) := by decide +kernel
theorem dX6_renew_6 : decode cX6_renew 6 = .ok (.invokestatic 19, 3) := by decide +kernel
theorem dX6_renew_9 : decode cX6_renew 9 = .ok (.aload_n 0, 1) := by decide +kernel
theorem dX6_renew_10 : decode cX6_renew 10 = .ok (.iload_n 1, 1) := by decide +kernel
theorem dX6_renew_11 : decode cX6_renew 11 = .ok (.putfield 15, 3) := by decide +kernel
theorem dX6_renew_14 : decode cX6_renew 14 = .ok (.return_, 1) := by decide +kernel
theorem dX6_sign_0 : decode cX6_sign 0 = .ok (.aload_n 0, 1) := by decide +kernel
theorem dX6_sign_1 : decode cX6_sign 1 = .ok (.iload_n 1, 1) := by decide +kernel
theorem dX6_sign_2 : decode cX6_sign 2 = .ok (.invokevirtual 25, 3) := by decide +kernel
theorem dX6_sign_5 : decode cX6_sign 5 = .ok (.ifCond .eq 12, 3) := by decide +kernel
theorem dX6_sign_8 : decode cX6_sign 8 = .ok (.aload_n 0, 1) := by decide +kernel
theorem dX6_sign_9 : decode cX6_sign 9 = .ok (.getfield 9, 3) := by decide +kernel
theorem dX6_sign_12 : decode cX6_sign 12 = .ok (.iload_n 1, 1) := by decide +kernel
theorem dX6_sign_13 : decode cX6_sign 13 = .ok (.baload, 1) := by decide +kernel
theorem dX6_sign_14 : decode cX6_sign 14 = .ok (.goto 6, 3) := by decide +kernel
theorem dX6_sign_17 : decode cX6_sign 17 = .ok (.sipush 1000, 3) := by decide +kernel
theorem dX6_sign_20 : decode cX6_sign 20 = .ok (.ireturn, 1) := by decide +kernel
theorem dX6_figure_0 : decode cX6_figure 0 = .ok (.aload_n 0, 1) := by decide +kernel
theorem dX6_figure_1 : decode cX6_figure 1 = .ok (.iload_n 1, 1) := by decide +kernel
theorem dX6_figure_2 : decode cX6_figure 2 = .ok (.invokevirtual 29, 3) := by decide +kernel
theorem dX6_figure_5 : decode cX6_figure 5 = .ok (.istore_n 2, 1) := by decide +kernel
theorem dX6_figure_6 : decode cX6_figure 6 = .ok (.iload_n 2, 1) := by decide +kernel
theorem dX6_figure_7 : decode cX6_figure 7 = .ok (.bipush 48, 2) := by decide +kernel
theorem dX6_figure_9 : decode cX6_figure 9 = .ok (.bipush 57, 2) := by decide +kernel
theorem dX6_figure_11 : decode cX6_figure 11 = .ok (.invokestatic 33, 3) := by decide +kernel
theorem dX6_figure_14 : decode cX6_figure 14 = .ok (.ifCond .eq 7, 3) := by decide +kernel
theorem dX6_figure_17 : decode cX6_figure 17 = .ok (.iconst (-1), 1) := by decide +kernel
theorem dX6_figure_18 : decode cX6_figure 18 = .ok (.goto 7, 3) := by decide +kernel
theorem dX6_figure_21 : decode cX6_figure 21 = .ok (.iload_n 2, 1) := by decide +kernel
theorem dX6_figure_22 : decode cX6_figure 22 = .ok (.bipush 48, 2) := by decide +kernel
theorem dX6_figure_24 : decode cX6_figure 24 = .ok (.isub, 1) := by decide +kernel
theorem dX6_figure_25 : decode cX6_figure 25 = .ok (.ireturn, 1) := by decide +kernel
theorem dX6_digestOn_0 : decode cX6_digestOn 0 = .ok (.ldc2_w 37, 3) := by decide +kernel
theorem dX6_digestOn_3 : decode cX6_digestOn 3 = .ok (.lload_n 1, 1) := by decide +kernel
theorem dX6_digestOn_4 : decode cX6_digestOn 4 = .ok (.lmul, 1) := by decide +kernel
theorem dX6_digestOn_5 : decode cX6_digestOn 5 = .ok (.aload_n 0, 1) := by decide +kernel
theorem dX6_digestOn_6 : decode cX6_digestOn 6 = .ok (.getfield 15, 3) := by decide +kernel
theorem dX6_digestOn_9 : decode cX6_digestOn 9 = .ok (.i2l, 1) := by decide +kernel
theorem dX6_digestOn_10 : decode cX6_digestOn 10 = .ok (.ladd, 1) := by decide +kernel
theorem dX6_digestOn_11 : decode cX6_digestOn 11 = .ok (.lstore_n 3, 1) := by decide +kernel
theorem dX6_digestOn_12 : decode cX6_digestOn 12 = .ok (.iconst 0, 1) := by decide +kernel
theorem dX6_digestOn_13 : decode cX6_digestOn 13 = .ok (.istore 5, 2) := by decide +kernel
theorem dX6_digestOn_15 : decode cX6_digestOn 15 = .ok (.iload 5, 2) := by decide +kernel
theorem dX6_digestOn_17 : decode cX6_digestOn 17 = .ok (.aload_n 0, 1) := by decide +kernel
theorem dX6_digestOn_18 : decode cX6_digestOn 18 = .ok (.getfield 15, 3) := by decide +kernel
theorem dX6_digestOn_21 : decode cX6_digestOn 21 = .ok (.if_icmp .ge 24, 3) := by decide +kernel
theorem dX6_digestOn_24 : decode cX6_digestOn 24 = .ok (.ldc2_w 37, 3) := by decide +kernel
theorem dX6_digestOn_27 : decode cX6_digestOn 27 = .ok (.lload_n 3, 1) := by decide +kernel
theorem dX6_digestOn_28 : decode cX6_digestOn 28 = .ok (.lmul, 1) := by decide +kernel
theorem dX6_digestOn_29 : decode cX6_digestOn 29 = .ok (.aload_n 0, 1) := by decide +kernel
theorem dX6_digestOn_30 : decode cX6_digestOn 30 = .ok (.getfield 9, 3) := by decide +kernel
theorem dX6_digestOn_33 : decode cX6_digestOn 33 = .ok (.iload 5, 2) := by decide +kernel
theorem dX6_digestOn_35 : decode cX6_digestOn 35 = .ok (.baload, 1) := by decide +kernel
theorem dX6_digestOn_36 : decode cX6_digestOn 36 = .ok (.i2l, 1) := by decide +kernel
theorem dX6_digestOn_37 : decode cX6_digestOn 37 = .ok (.ladd, 1) := by decide +kernel
theorem dX6_digestOn_38 : decode cX6_digestOn 38 = .ok (.lstore_n 3, 1) := by decide +kernel
theorem dX6_digestOn_39 : decode cX6_digestOn 39 = .ok (.iinc 5 1, 3) := by decide +kernel
theorem dX6_digestOn_42 : decode cX6_digestOn 42 = .ok (.goto (-27), 3) := by decide +kernel
theorem dX6_digestOn_45 : decode cX6_digestOn 45 = .ok (.lload_n 3, 1) := by decide +kernel
theorem dX6_digestOn_46 : decode cX6_digestOn 46 = .ok (.lreturn, 1) := by decide +kernel
theorem dX7_init_0 : decode cX7_init 0 = .ok (.aload_n 0, 1) := by decide +kernel
theorem dX7_init_1 : decode cX7_init 1 = .ok (.invokespecial 3, 3) := by decide +kernel
theorem dX7_init_4 : decode cX7_init 4 = .ok (.aload_n 0, 1) := by decide +kernel
theorem dX7_init_5 : decode cX7_init 5 = .ok (.new 9, 3) := by decide +kernel
theorem dX7_init_8 : decode cX7_init 8 = .ok (.dup, 1) := by decide +kernel
theorem dX7_init_9 : decode cX7_init 9 = .ok (.invokespecial 11, 3) := by decide +kernel
theorem dX7_init_12 : decode cX7_init 12 = .ok (.putfield 12, 3) := by decide +kernel
theorem dX7_init_15 : decode cX7_init 15 = .ok (.aload_n 0, 1) := by decide +kernel
theorem dX7_init_16 : decode cX7_init 16 = .ok (.iconst 0, 1) := by decide +kernel
theorem dX7_init_17 : decode cX7_init 17 = .ok (.putfield 18, 3) := by decide +kernel
theorem dX7_init_20 : decode cX7_init 20 = .ok (.aload_n 0, 1) := by decide +kernel
theorem dX7_init_21 : decode cX7_init 21 = .ok (.iconst 0, 1) := by decide +kernel
theorem dX7_init_22 : decode cX7_init 22 = .ok (.putfield 22, 3) := by decide +kernel
theorem dX7_init_25 : decode cX7_init 25 = .ok (.aload_n 0, 1) := by decide +kernel
theorem dX7_init_26 : decode cX7_init 26 = .ok (.iconst 0, 1) := by decide +kernel
theorem dX7_init_27 : decode cX7_init 27 = .ok (.putfield 25, 3) := by decide +kernel
theorem dX7_init_30 : decode cX7_init 30 = .ok (.aload_n 0, 1) := by decide +kernel
theorem dX7_init_31 : decode cX7_init 31 = .ok (.iconst 0, 1) := by decide +kernel
theorem dX7_init_32 : decode cX7_init 32 = .ok (.putfield 28, 3) := by decide +kernel
theorem dX7_init_35 : decode cX7_init 35 = .ok (.aload_n 0, 1) := by decide +kernel
theorem dX7_init_36 : decode cX7_init 36 = .ok (.sipush 401, 3) := by decide +kernel
theorem dX7_init_39 : decode cX7_init 39 = .ok (.newarray .int, 2) := by decide +kernel
theorem dX7_init_41 : decode cX7_init 41 = .ok (.putfield 31, 3) := by decide +kernel
theorem dX7_init_44 : decode cX7_init 44 = .ok (.aload_n 0, 1) := by decide +kernel
theorem dX7_init_45 : decode cX7_init 45 = .ok (.sipush 200, 3) := by decide +kernel
theorem dX7_init_48 : decode cX7_init 48 = .ok (.newarray .long, 2) := by decide +kernel
theorem dX7_init_50 : decode cX7_init 50 = .ok (.putfield 35, 3) := by decide +kernel
theorem dX7_init_53 : decode cX7_init 53 = .ok (.aload_n 0, 1) := by decide +kernel
theorem dX7_init_54 : decode cX7_init 54 = .ok (.lconst 0, 1) := by decide +kernel
theorem dX7_init_55 : decode cX7_init 55 = .ok (.putfield 39, 3) := by decide +kernel
theorem dX7_init_58 : decode cX7_init 58 = .ok (.return_, 1) := by decide +kernel
theorem dX7_find_0 : decode cX7_find 0 = .ok (.aload_n 0, 1) := by decide +kernel
theorem dX7_find_1 : decode cX7_find 1 = .ok (.getfield 12, 3) := by decide +kernel
theorem dX7_find_4 : decode cX7_find 4 = .ok (.iload_n 1, 1) := by decide +kernel
theorem dX7_find_5 : decode cX7_find 5 = .ok (.iload_n 2, 1) := by decide +kernel
theorem dX7_find_6 : decode cX7_find 6 = .ok (.iconst 0, 1) := by decide +kernel
theorem dX7_find_7 : decode cX7_find 7 = .ok (.invokevirtual 43, 3) := by decide +kernel
theorem dX7_find_10 : decode cX7_find 10 = .ok (.aload_n 0, 1) := by decide +kernel
theorem dX7_find_11 : decode cX7_find 11 = .ok (.dup, 1) := by decide +kernel
theorem dX7_find_12 : decode cX7_find 12 = .ok (.getfield 39, 3) := by decide +kernel
theorem dX7_find_15 : decode cX7_find 15 = .ok (.ldc2_w 47, 3) := by decide +kernel
theorem dX7_find_18 : decode cX7_find 18 = .ok (.ladd, 1) := by decide +kernel
theorem dX7_find_19 : decode cX7_find 19 = .ok (.putfield 39, 3) := by decide +kernel
theorem dX7_find_22 : decode cX7_find 22 = .ok (.aload_n 0, 1) := by decide +kernel
theorem dX7_find_23 : decode cX7_find 23 = .ok (.iconst 3, 1) := by decide +kernel
theorem dX7_find_24 : decode cX7_find 24 = .ok (.putfield 18, 3) := by decide +kernel
theorem dX7_find_27 : decode cX7_find 27 = .ok (.aload_n 0, 1) := by decide +kernel
theorem dX7_find_28 : decode cX7_find 28 = .ok (.iconst 0, 1) := by decide +kernel
theorem dX7_find_29 : decode cX7_find 29 = .ok (.putfield 22, 3) := by decide +kernel
theorem dX7_find_32 : decode cX7_find 32 = .ok (.iconst 0, 1) := by decide +kernel
theorem dX7_find_33 : decode cX7_find 33 = .ok (.istore_n 3, 1) := by decide +kernel
theorem dX7_find_34 : decode cX7_find 34 = .ok (.iload_n 3, 1) := by decide +kernel
theorem dX7_find_35 : decode cX7_find 35 = .ok (.sipush 400, 3) := by decide +kernel
theorem dX7_find_38 : decode cX7_find 38 = .ok (.if_icmp .gt 145, 3) := by decide +kernel
theorem dX7_find_41 : decode cX7_find 41 = .ok (.iload_n 3, 1) := by decide +kernel
theorem dX7_find_42 : decode cX7_find 42 = .ok (.ifCond .le 11, 3) := by decide +kernel
theorem dX7_find_45 : decode cX7_find 45 = .ok (.aload_n 0, 1) := by decide +kernel
theorem dX7_find_46 : decode cX7_find 46 = .ok (.getfield 12, 3) := by decide +kernel
theorem dX7_find_49 : decode cX7_find 49 = .ok (.invokevirtual 49, 3) := by decide +kernel
theorem dX7_find_52 : decode cX7_find 52 = .ok (.pop, 1) := by decide +kernel
theorem dX7_find_53 : decode cX7_find 53 = .ok (.aload_n 0, 1) := by decide +kernel
theorem dX7_find_54 : decode cX7_find 54 = .ok (.getfield 12, 3) := by decide +kernel
theorem dX7_find_57 : decode cX7_find 57 = .ok (.getfield 53, 3) := by decide +kernel
theorem dX7_find_60 : decode cX7_find 60 = .ok (.ifCond .eq 24, 3) := by decide +kernel
theorem dX7_find_63 : decode cX7_find 63 = .ok (.aload_n 0, 1) := by decide +kernel
theorem dX7_find_64 : decode cX7_find 64 = .ok (.aload_n 0, 1) := by decide +kernel
theorem dX7_find_65 : decode cX7_find 65 = .ok (.getfield 12, 3) := by decide +kernel
theorem dX7_find_68 : decode cX7_find 68 = .ok (.getfield 53, 3) := by decide +kernel
theorem dX7_find_71 : decode cX7_find 71 = .ok (.iconst 1, 1) := by decide +kernel
theorem dX7_find_72 : decode cX7_find 72 = .ok (.if_icmp .ne 7, 3) := by decide +kernel
theorem dX7_find_75 : decode cX7_find 75 = .ok (.iconst 4, 1) := by decide +kernel
theorem dX7_find_76 : decode cX7_find 76 = .ok (.goto 4, 3) := by decide +kernel
theorem dX7_find_79 : decode cX7_find 79 = .ok (.iconst 5, 1) := by decide +kernel
theorem dX7_find_80 : decode cX7_find 80 = .ok (.putfield 18, 3) := by decide +kernel
theorem dX7_find_83 : decode cX7_find 83 = .ok (.return_, 1) := by decide +kernel
theorem dX7_find_84 : decode cX7_find 84 = .ok (.iconst 2, 1) := by decide +kernel
theorem dX7_find_85 : decode cX7_find 85 = .ok (.aload_n 0, 1) := by decide +kernel
theorem dX7_find_86 : decode cX7_find 86 = .ok (.getfield 12, 3) := by decide +kernel
theorem dX7_find_89 : decode cX7_find 89 = .ok (.getfield 56, 3) := by decide +kernel
theorem dX7_find_92 : decode cX7_find 92 = .ok (.imul, 1) := by decide +kernel
theorem dX7_find_93 : decode cX7_find 93 = .ok (.aload_n 0, 1) := by decide +kernel
theorem dX7_find_94 : decode cX7_find 94 = .ok (.getfield 12, 3) := by decide +kernel
theorem dX7_find_97 : decode cX7_find 97 = .ok (.getfield 59, 3) := by decide +kernel
theorem dX7_find_100 : decode cX7_find 100 = .ok (.iadd, 1) := by decide +kernel
theorem dX7_find_101 : decode cX7_find 101 = .ok (.istore 4, 2) := by decide +kernel
theorem dX7_find_103 : decode cX7_find 103 = .ok (.iload 4, 2) := by decide +kernel
theorem dX7_find_105 : decode cX7_find 105 = .ok (.iconst 0, 1) := by decide +kernel
theorem dX7_find_106 : decode cX7_find 106 = .ok (.sipush 199, 3) := by decide +kernel
theorem dX7_find_109 : decode cX7_find 109 = .ok (.invokestatic 62, 3) := by decide +kernel
theorem dX7_find_112 : decode cX7_find 112 = .ok (.ifCond .eq 4, 3) := by decide +kernel
theorem dX7_find_115 : decode cX7_find 115 = .ok (.return_, 1) := by decide +kernel
theorem dX7_find_116 : decode cX7_find 116 = .ok (.aload_n 0, 1) := by decide +kernel
theorem dX7_find_117 : decode cX7_find 117 = .ok (.getfield 35, 3) := by decide +kernel
theorem dX7_find_120 : decode cX7_find 120 = .ok (.iload 4, 2) := by decide +kernel
theorem dX7_find_122 : decode cX7_find 122 = .ok (.laload, 1) := by decide +kernel
theorem dX7_find_123 : decode cX7_find 123 = .ok (.aload_n 0, 1) := by decide +kernel
theorem dX7_find_124 : decode cX7_find 124 = .ok (.getfield 39, 3) := by decide +kernel
theorem dX7_find_127 : decode cX7_find 127 = .ok (.lcmp, 1) := by decide +kernel
theorem dX7_find_128 : decode cX7_find 128 = .ok (.ifCond .lt 22, 3) := by decide +kernel
theorem dX7_find_131 : decode cX7_find 131 = .ok (.aload_n 0, 1) := by decide +kernel
theorem dX7_find_132 : decode cX7_find 132 = .ok (.aload_n 0, 1) := by decide +kernel
theorem dX7_find_133 : decode cX7_find 133 = .ok (.getfield 35, 3) := by decide +kernel
theorem dX7_find_136 : decode cX7_find 136 = .ok (.iload 4, 2) := by decide +kernel
theorem dX7_find_138 : decode cX7_find 138 = .ok (.laload, 1) := by decide +kernel
theorem dX7_find_139 : decode cX7_find 139 = .ok (.aload_n 0, 1) := by decide +kernel
theorem dX7_find_140 : decode cX7_find 140 = .ok (.getfield 39, 3) := by decide +kernel
theorem dX7_find_143 : decode cX7_find 143 = .ok (.lsub, 1) := by decide +kernel
theorem dX7_find_144 : decode cX7_find 144 = .ok (.l2i, 1) := by decide +kernel
theorem dX7_find_145 : decode cX7_find 145 = .ok (.iload_n 3, 1) := by decide +kernel
theorem dX7_find_146 : decode cX7_find 146 = .ok (.invokevirtual 66, 3) := by decide +kernel
theorem dX7_find_149 : decode cX7_find 149 = .ok (.return_, 1) := by decide +kernel
theorem dX7_find_150 : decode cX7_find 150 = .ok (.aload_n 0, 1) := by decide +kernel
theorem dX7_find_151 : decode cX7_find 151 = .ok (.getfield 35, 3) := by decide +kernel
theorem dX7_find_154 : decode cX7_find 154 = .ok (.iload 4, 2) := by decide +kernel
theorem dX7_find_156 : decode cX7_find 156 = .ok (.aload_n 0, 1) := by decide +kernel
theorem dX7_find_157 : decode cX7_find 157 = .ok (.getfield 39, 3) := by decide +kernel
theorem dX7_find_160 : decode cX7_find 160 = .ok (.iload_n 3, 1) := by decide +kernel
theorem dX7_find_161 : decode cX7_find 161 = .ok (.i2l, 1) := by decide +kernel
theorem dX7_find_162 : decode cX7_find 162 = .ok (.ladd, 1) := by decide +kernel
theorem dX7_find_163 : decode cX7_find 163 = .ok (.lastore, 1) := by decide +kernel
theorem dX7_find_164 : decode cX7_find 164 = .ok (.aload_n 0, 1) := by decide +kernel
theorem dX7_find_165 : decode cX7_find 165 = .ok (.getfield 31, 3) := by decide +kernel
theorem dX7_find_168 : decode cX7_find 168 = .ok (.iload_n 3, 1) := by decide +kernel
theorem dX7_find_169 : decode cX7_find 169 = .ok (.aload_n 0, 1) := by decide +kernel
theorem dX7_find_170 : decode cX7_find 170 = .ok (.getfield 12, 3) := by decide +kernel
theorem dX7_find_173 : decode cX7_find 173 = .ok (.getfield 56, 3) := by decide +kernel
theorem dX7_find_176 : decode cX7_find 176 = .ok (.iastore, 1) := by decide +kernel
theorem dX7_find_177 : decode cX7_find 177 = .ok (.iinc 3 1, 3) := by decide +kernel
theorem dX7_find_180 : decode cX7_find 180 = .ok (.goto (-146), 3) := by decide +kernel
theorem dX7_find_183 : decode cX7_find 183 = .ok (.return_, 1) := by decide +kernel
theorem dX7_closeTrip_0 : decode cX7_closeTrip 0 = .ok (.aload_n 0, 1) := by decide +kernel
theorem dX7_closeTrip_1 : decode cX7_closeTrip 1 = .ok (.iload_n 2, 1) := by decide +kernel
theorem dX7_closeTrip_2 : decode cX7_closeTrip 2 = .ok (.iload_n 1, 1) := by decide +kernel
theorem dX7_closeTrip_3 : decode cX7_closeTrip 3 = .ok (.isub, 1) := by decide +kernel
theorem dX7_closeTrip_4 : decode cX7_closeTrip 4 = .ok (.putfield 22, 3) := by decide +kernel
theorem dX7_closeTrip_7 : decode cX7_closeTrip 7 = .ok (.aload_n 0, 1) := by decide +kernel
theorem dX7_closeTrip_8 : decode cX7_closeTrip 8 = .ok (.aload_n 0, 1) := by decide +kernel
theorem dX7_closeTrip_9 : decode cX7_closeTrip 9 = .ok (.getfield 31, 3) := by decide +kernel
theorem dX7_closeTrip_12 : decode cX7_closeTrip 12 = .ok (.iload_n 1, 1) := by decide +kernel
theorem dX7_closeTrip_13 : decode cX7_closeTrip 13 = .ok (.iaload, 1) := by decide +kernel
theorem dX7_closeTrip_14 : decode cX7_closeTrip 14 = .ok (.putfield 25, 3) := by decide +kernel
theorem dX7_closeTrip_17 : decode cX7_closeTrip 17 = .ok (.aload_n 0, 1) := by decide +kernel
theorem dX7_closeTrip_18 : decode cX7_closeTrip 18 = .ok (.aload_n 0, 1) := by decide +kernel
theorem dX7_closeTrip_19 : decode cX7_closeTrip 19 = .ok (.getfield 31, 3) := by decide +kernel
theorem dX7_closeTrip_22 : decode cX7_closeTrip 22 = .ok (.iload_n 1, 1) := by decide +kernel
theorem dX7_closeTrip_23 : decode cX7_closeTrip 23 = .ok (.iaload, 1) := by decide +kernel
theorem dX7_closeTrip_24 : decode cX7_closeTrip 24 = .ok (.putfield 28, 3) := by decide +kernel
theorem dX7_closeTrip_27 : decode cX7_closeTrip 27 = .ok (.iload_n 1, 1) := by decide +kernel
theorem dX7_closeTrip_28 : decode cX7_closeTrip 28 = .ok (.iconst 1, 1) := by decide +kernel
theorem dX7_closeTrip_29 : decode cX7_closeTrip 29 = .ok (.iadd, 1) := by decide +kernel
theorem dX7_closeTrip_30 : decode cX7_closeTrip 30 = .ok (.istore_n 3, 1) := by decide +kernel
theorem dX7_closeTrip_31 : decode cX7_closeTrip 31 = .ok (.iload_n 3, 1) := by decide +kernel
theorem dX7_closeTrip_32 : decode cX7_closeTrip 32 = .ok (.iload_n 2, 1) := by decide +kernel
theorem dX7_closeTrip_33 : decode cX7_closeTrip 33 = .ok (.if_icmp .ge 43, 3) := by decide +kernel
theorem dX7_closeTrip_36 : decode cX7_closeTrip 36 = .ok (.aload_n 0, 1) := by decide +kernel
theorem dX7_closeTrip_37 : decode cX7_closeTrip 37 = .ok (.aload_n 0, 1) := by decide +kernel
theorem dX7_closeTrip_38 : decode cX7_closeTrip 38 = .ok (.getfield 25, 3) := by decide +kernel
theorem dX7_closeTrip_41 : decode cX7_closeTrip 41 = .ok (.aload_n 0, 1) := by decide +kernel
theorem dX7_closeTrip_42 : decode cX7_closeTrip 42 = .ok (.getfield 31, 3) := by decide +kernel
theorem dX7_closeTrip_45 : decode cX7_closeTrip 45 = .ok (.iload_n 3, 1) := by decide +kernel
theorem dX7_closeTrip_46 : decode cX7_closeTrip 46 = .ok (.iaload, 1) := by decide +kernel
theorem dX7_closeTrip_47 : decode cX7_closeTrip 47 = .ok (.invokestatic 70, 3) := by decide +kernel
theorem dX7_closeTrip_50 : decode cX7_closeTrip 50 = .ok (.putfield 25, 3) := by decide +kernel
theorem dX7_closeTrip_53 : decode cX7_closeTrip 53 = .ok (.aload_n 0, 1) := by decide +kernel
theorem dX7_closeTrip_54 : decode cX7_closeTrip 54 = .ok (.aload_n 0, 1) := by decide +kernel
theorem dX7_closeTrip_55 : decode cX7_closeTrip 55 = .ok (.getfield 28, 3) := by decide +kernel
theorem dX7_closeTrip_58 : decode cX7_closeTrip 58 = .ok (.aload_n 0, 1) := by decide +kernel
theorem dX7_closeTrip_59 : decode cX7_closeTrip 59 = .ok (.getfield 31, 3) := by decide +kernel
theorem dX7_closeTrip_62 : decode cX7_closeTrip 62 = .ok (.iload_n 3, 1) := by decide +kernel
theorem dX7_closeTrip_63 : decode cX7_closeTrip 63 = .ok (.iaload, 1) := by decide +kernel
theorem dX7_closeTrip_64 : decode cX7_closeTrip 64 = .ok (.invokestatic 76, 3) := by decide +kernel
theorem dX7_closeTrip_67 : decode cX7_closeTrip 67 = .ok (.putfield 28, 3) := by decide +kernel
theorem dX7_closeTrip_70 : decode cX7_closeTrip 70 = .ok (.iinc 3 1, 3) := by decide +kernel
theorem dX7_closeTrip_73 : decode cX7_closeTrip 73 = .ok (.goto (-42), 3) := by decide +kernel
theorem dX7_closeTrip_76 : decode cX7_closeTrip 76 = .ok (.aload_n 0, 1) := by decide +kernel
theorem dX7_closeTrip_77 : decode cX7_closeTrip 77 = .ok (.getfield 25, 3) := by decide +kernel
theorem dX7_closeTrip_80 : decode cX7_closeTrip 80 = .ok (.aload_n 0, 1) := by decide +kernel
theorem dX7_closeTrip_81 : decode cX7_closeTrip 81 = .ok (.getfield 28, 3) := by decide +kernel
theorem dX7_closeTrip_84 : decode cX7_closeTrip 84 = .ok (.if_icmp .ne 35, 3) := by decide +kernel
theorem dX7_closeTrip_87 : decode cX7_closeTrip 87 = .ok (.aload_n 0, 1) := by decide +kernel
theorem dX7_closeTrip_88 : decode cX7_closeTrip 88 = .ok (.aload_n 0, 1) := by decide +kernel
theorem dX7_closeTrip_89 : decode cX7_closeTrip 89 = .ok (.getfield 25, 3) := by decide +kernel
theorem dX7_closeTrip_92 : decode cX7_closeTrip 92 = .ok (.aload_n 0, 1) := by decide +kernel
theorem dX7_closeTrip_93 : decode cX7_closeTrip 93 = .ok (.getfield 12, 3) := by decide +kernel
theorem dX7_closeTrip_96 : decode cX7_closeTrip 96 = .ok (.getfield 79, 3) := by decide +kernel
theorem dX7_closeTrip_99 : decode cX7_closeTrip 99 = .ok (.invokevirtual 83, 3) := by decide +kernel
theorem dX7_closeTrip_102 : decode cX7_closeTrip 102 = .ok (.iconst 2, 1) := by decide +kernel
theorem dX7_closeTrip_103 : decode cX7_closeTrip 103 = .ok (.idiv, 1) := by decide +kernel
theorem dX7_closeTrip_104 : decode cX7_closeTrip 104 = .ok (.if_icmp .le 8, 3) := by decide +kernel
theorem dX7_closeTrip_107 : decode cX7_closeTrip 107 = .ok (.bipush 6, 2) := by decide +kernel
theorem dX7_closeTrip_109 : decode cX7_closeTrip 109 = .ok (.goto 4, 3) := by decide +kernel
theorem dX7_closeTrip_112 : decode cX7_closeTrip 112 = .ok (.iconst 1, 1) := by decide +kernel
theorem dX7_closeTrip_113 : decode cX7_closeTrip 113 = .ok (.putfield 18, 3) := by decide +kernel
theorem dX7_closeTrip_116 : decode cX7_closeTrip 116 = .ok (.goto 29, 3) := by decide +kernel
theorem dX7_closeTrip_119 : decode cX7_closeTrip 119 = .ok (.aload_n 0, 1) := by decide +kernel
theorem dX7_closeTrip_120 : decode cX7_closeTrip 120 = .ok (.getfield 22, 3) := by decide +kernel
theorem dX7_closeTrip_123 : decode cX7_closeTrip 123 = .ok (.iconst 4, 1) := by decide +kernel
theorem dX7_closeTrip_124 : decode cX7_closeTrip 124 = .ok (.if_icmp .gt 21, 3) := by decide +kernel
theorem dX7_closeTrip_127 : decode cX7_closeTrip 127 = .ok (.aload_n 0, 1) := by decide +kernel
theorem dX7_closeTrip_128 : decode cX7_closeTrip 128 = .ok (.aload_n 0, 1) := by decide +kernel
theorem dX7_closeTrip_129 : decode cX7_closeTrip 129 = .ok (.getfield 22, 3) := by decide +kernel
theorem dX7_closeTrip_132 : decode cX7_closeTrip 132 = .ok (.iconst 4, 1) := by decide +kernel
theorem dX7_closeTrip_133 : decode cX7_closeTrip 133 = .ok (.if_icmp .ne 8, 3) := by decide +kernel
theorem dX7_closeTrip_136 : decode cX7_closeTrip 136 = .ok (.bipush 7, 2) := by decide +kernel
theorem dX7_closeTrip_138 : decode cX7_closeTrip 138 = .ok (.goto 4, 3) := by decide +kernel
theorem dX7_closeTrip_141 : decode cX7_closeTrip 141 = .ok (.iconst 2, 1) := by decide +kernel
theorem dX7_closeTrip_142 : decode cX7_closeTrip 142 = .ok (.putfield 18, 3) := by decide +kernel
theorem dX7_closeTrip_145 : decode cX7_closeTrip 145 = .ok (.return_, 1) := by decide +kernel
theorem dX7_isOf_0 : decode cX7_isOf 0 = .ok (.iload_n 1, 1) := by decide +kernel
theorem dX7_isOf_1 : decode cX7_isOf 1 = .ok (.ifCond .eq 39, 3) := by decide +kernel
theorem dX7_isOf_4 : decode cX7_isOf 4 = .ok (.iload_n 1, 1) := by decide +kernel
theorem dX7_isOf_5 : decode cX7_isOf 5 = .ok (.aload_n 0, 1) := by decide +kernel
theorem dX7_isOf_6 : decode cX7_isOf 6 = .ok (.getfield 18, 3) := by decide +kernel
theorem dX7_isOf_9 : decode cX7_isOf 9 = .ok (.if_icmp .eq 31, 3) := by decide +kernel
theorem dX7_isOf_12 : decode cX7_isOf 12 = .ok (.iload_n 1, 1) := by decide +kernel
theorem dX7_isOf_13 : decode cX7_isOf 13 = .ok (.iconst 1, 1) := by decide +kernel
theorem dX7_isOf_14 : decode cX7_isOf 14 = .ok (.if_icmp .ne 12, 3) := by decide +kernel
theorem dX7_isOf_17 : decode cX7_isOf 17 = .ok (.aload_n 0, 1) := by decide +kernel
theorem dX7_isOf_18 : decode cX7_isOf 18 = .ok (.getfield 18, 3) := by decide +kernel
theorem dX7_isOf_21 : decode cX7_isOf 21 = .ok (.bipush 6, 2) := by decide +kernel
theorem dX7_isOf_23 : decode cX7_isOf 23 = .ok (.if_icmp .eq 17, 3) := by decide +kernel
theorem dX7_isOf_26 : decode cX7_isOf 26 = .ok (.iload_n 1, 1) := by decide +kernel
theorem dX7_isOf_27 : decode cX7_isOf 27 = .ok (.iconst 2, 1) := by decide +kernel
theorem dX7_isOf_28 : decode cX7_isOf 28 = .ok (.if_icmp .ne 16, 3) := by decide +kernel
theorem dX7_isOf_31 : decode cX7_isOf 31 = .ok (.aload_n 0, 1) := by decide +kernel
theorem dX7_isOf_32 : decode cX7_isOf 32 = .ok (.getfield 18, 3) := by decide +kernel
theorem dX7_isOf_35 : decode cX7_isOf 35 = .ok (.bipush 7, 2) := by decide +kernel
theorem dX7_isOf_37 : decode cX7_isOf 37 = .ok (.if_icmp .ne 7, 3) := by decide +kernel
theorem dX7_isOf_40 : decode cX7_isOf 40 = .ok (.iconst 1, 1) := by decide +kernel
theorem dX7_isOf_41 : decode cX7_isOf 41 = .ok (.goto 4, 3) := by decide +kernel
theorem dX7_isOf_44 : decode cX7_isOf 44 = .ok (.iconst 0, 1) := by decide +kernel
theorem dX7_isOf_45 : decode cX7_isOf 45 = .ok (.ireturn, 1) := by decide +kernel
theorem dX7_walksWell_0 : decode cX7_walksWell 0 = .ok (.aload_n 0, 1) := by decide +kernel
theorem dX7_walksWell_1 : decode cX7_walksWell 1 = .ok (.iload_n 1, 1) := by decide +kernel
theorem dX7_walksWell_2 : decode cX7_walksWell 2 = .ok (.iload_n 2, 1) := by decide +kernel
theorem dX7_walksWell_3 : decode cX7_walksWell 3 = .ok (.invokevirtual 89, 3) := by decide +kernel
theorem dX7_walksWell_6 : decode cX7_walksWell 6 = .ok (.aload_n 0, 1) := by decide +kernel
theorem dX7_walksWell_7 : decode cX7_walksWell 7 = .ok (.iconst 1, 1) := by decide +kernel
theorem dX7_walksWell_8 : decode cX7_walksWell 8 = .ok (.invokevirtual 92, 3) := by decide +kernel
theorem dX7_walksWell_11 : decode cX7_walksWell 11 = .ok (.ireturn, 1) := by decide +kernel
theorem dX7_tells_0 : decode cX7_tells 0 = .ok (.iload_n 1, 1) := by decide +kernel
theorem dX7_tells_1 : decode cX7_tells 1 = .ok (.tableswitch 74 1 7 #[43, 48, 74, 74, 74, 58, 43], 43) := by decide +kernel
theorem dX7_tells_44 : decode cX7_tells 44 = .ok (.aload_n 0, 1) := by decide +kernel
theorem dX7_tells_45 : decode cX7_tells 45 = .ok (.getfield 25, 3) := by decide +kernel
theorem dX7_tells_48 : decode cX7_tells 48 = .ok (.ireturn, 1) := by decide +kernel
theorem dX7_tells_49 : decode cX7_tells 49 = .ok (.aload_n 0, 1) := by decide +kernel
theorem dX7_tells_50 : decode cX7_tells 50 = .ok (.getfield 28, 3) := by decide +kernel
theorem dX7_tells_53 : decode cX7_tells 53 = .ok (.aload_n 0, 1) := by decide +kernel
theorem dX7_tells_54 : decode cX7_tells 54 = .ok (.getfield 25, 3) := by decide +kernel
theorem dX7_tells_57 : decode cX7_tells 57 = .ok (.isub, 1) := by decide +kernel
theorem dX7_tells_58 : decode cX7_tells 58 = .ok (.ireturn, 1) := by decide +kernel
theorem dX7_tells_59 : decode cX7_tells 59 = .ok (.aload_n 0, 1) := by decide +kernel
theorem dX7_tells_60 : decode cX7_tells 60 = .ok (.getfield 12, 3) := by decide +kernel
theorem dX7_tells_63 : decode cX7_tells 63 = .ok (.getfield 79, 3) := by decide +kernel
theorem dX7_tells_66 : decode cX7_tells 66 = .ok (.invokevirtual 83, 3) := by decide +kernel
theorem dX7_tells_69 : decode cX7_tells 69 = .ok (.aload_n 0, 1) := by decide +kernel
theorem dX7_tells_70 : decode cX7_tells 70 = .ok (.getfield 25, 3) := by decide +kernel
theorem dX7_tells_73 : decode cX7_tells 73 = .ok (.isub, 1) := by decide +kernel
theorem dX7_tells_74 : decode cX7_tells 74 = .ok (.ireturn, 1) := by decide +kernel
theorem dX7_tells_75 : decode cX7_tells 75 = .ok (.aload_n 0, 1) := by decide +kernel
theorem dX7_tells_76 : decode cX7_tells 76 = .ok (.getfield 12, 3) := by decide +kernel
theorem dX7_tells_79 : decode cX7_tells 79 = .ok (.getfield 96, 3) := by decide +kernel
theorem dX7_tells_82 : decode cX7_tells 82 = .ok (.ireturn, 1) := by decide +kernel
theorem dX7_unlikePaces_0 : decode cX7_unlikePaces 0 = .ok (.lconst 0, 1) := by decide +kernel
theorem dX7_unlikePaces_1 : decode cX7_unlikePaces 1 = .ok (.lstore_n 3, 1) := by decide +kernel
theorem dX7_unlikePaces_2 : decode cX7_unlikePaces 2 = .ok (.lconst 0, 1) := by decide +kernel
theorem dX7_unlikePaces_3 : decode cX7_unlikePaces 3 = .ok (.lstore 5, 2) := by decide +kernel
theorem dX7_unlikePaces_5 : decode cX7_unlikePaces 5 = .ok (.aload_n 0, 1) := by decide +kernel
theorem dX7_unlikePaces_6 : decode cX7_unlikePaces 6 = .ok (.getfield 12, 3) := by decide +kernel
theorem dX7_unlikePaces_9 : decode cX7_unlikePaces 9 = .ok (.iload_n 1, 1) := by decide +kernel
theorem dX7_unlikePaces_10 : decode cX7_unlikePaces 10 = .ok (.iload_n 2, 1) := by decide +kernel
theorem dX7_unlikePaces_11 : decode cX7_unlikePaces 11 = .ok (.iconst 0, 1) := by decide +kernel
theorem dX7_unlikePaces_12 : decode cX7_unlikePaces 12 = .ok (.invokevirtual 43, 3) := by decide +kernel
theorem dX7_unlikePaces_15 : decode cX7_unlikePaces 15 = .ok (.iconst 0, 1) := by decide +kernel
theorem dX7_unlikePaces_16 : decode cX7_unlikePaces 16 = .ok (.istore 7, 2) := by decide +kernel
theorem dX7_unlikePaces_18 : decode cX7_unlikePaces 18 = .ok (.iload 7, 2) := by decide +kernel
theorem dX7_unlikePaces_20 : decode cX7_unlikePaces 20 = .ok (.sipush 400, 3) := by decide +kernel
theorem dX7_unlikePaces_23 : decode cX7_unlikePaces 23 = .ok (.if_icmp .ge 63, 3) := by decide +kernel
theorem dX7_unlikePaces_26 : decode cX7_unlikePaces 26 = .ok (.aload_n 0, 1) := by decide +kernel
theorem dX7_unlikePaces_27 : decode cX7_unlikePaces 27 = .ok (.getfield 12, 3) := by decide +kernel
theorem dX7_unlikePaces_30 : decode cX7_unlikePaces 30 = .ok (.invokevirtual 49, 3) := by decide +kernel
theorem dX7_unlikePaces_33 : decode cX7_unlikePaces 33 = .ok (.ifCond .eq 53, 3) := by decide +kernel
theorem dX7_unlikePaces_36 : decode cX7_unlikePaces 36 = .ok (.aload_n 0, 1) := by decide +kernel
theorem dX7_unlikePaces_37 : decode cX7_unlikePaces 37 = .ok (.getfield 12, 3) := by decide +kernel
theorem dX7_unlikePaces_40 : decode cX7_unlikePaces 40 = .ok (.getfield 56, 3) := by decide +kernel
theorem dX7_unlikePaces_43 : decode cX7_unlikePaces 43 = .ok (.bipush 64, 2) := by decide +kernel
theorem dX7_unlikePaces_45 : decode cX7_unlikePaces 45 = .ok (.if_icmp .ge 18, 3) := by decide +kernel
theorem dX7_unlikePaces_48 : decode cX7_unlikePaces 48 = .ok (.lload_n 3, 1) := by decide +kernel
theorem dX7_unlikePaces_49 : decode cX7_unlikePaces 49 = .ok (.lconst 1, 1) := by decide +kernel
theorem dX7_unlikePaces_50 : decode cX7_unlikePaces 50 = .ok (.aload_n 0, 1) := by decide +kernel
theorem dX7_unlikePaces_51 : decode cX7_unlikePaces 51 = .ok (.getfield 12, 3) := by decide +kernel
theorem dX7_unlikePaces_54 : decode cX7_unlikePaces 54 = .ok (.getfield 56, 3) := by decide +kernel
theorem dX7_unlikePaces_57 : decode cX7_unlikePaces 57 = .ok (.lshl, 1) := by decide +kernel
theorem dX7_unlikePaces_58 : decode cX7_unlikePaces 58 = .ok (.lor, 1) := by decide +kernel
theorem dX7_unlikePaces_59 : decode cX7_unlikePaces 59 = .ok (.lstore_n 3, 1) := by decide +kernel
theorem dX7_unlikePaces_60 : decode cX7_unlikePaces 60 = .ok (.goto 20, 3) := by decide +kernel
theorem dX7_unlikePaces_63 : decode cX7_unlikePaces 63 = .ok (.lload 5, 2) := by decide +kernel
theorem dX7_unlikePaces_65 : decode cX7_unlikePaces 65 = .ok (.lconst 1, 1) := by decide +kernel
theorem dX7_unlikePaces_66 : decode cX7_unlikePaces 66 = .ok (.aload_n 0, 1) := by decide +kernel
theorem dX7_unlikePaces_67 : decode cX7_unlikePaces 67 = .ok (.getfield 12, 3) := by decide +kernel
theorem dX7_unlikePaces_70 : decode cX7_unlikePaces 70 = .ok (.getfield 56, 3) := by decide +kernel
theorem dX7_unlikePaces_73 : decode cX7_unlikePaces 73 = .ok (.bipush 64, 2) := by decide +kernel
theorem dX7_unlikePaces_75 : decode cX7_unlikePaces 75 = .ok (.isub, 1) := by decide +kernel
theorem dX7_unlikePaces_76 : decode cX7_unlikePaces 76 = .ok (.lshl, 1) := by decide +kernel
theorem dX7_unlikePaces_77 : decode cX7_unlikePaces 77 = .ok (.lor, 1) := by decide +kernel
theorem dX7_unlikePaces_78 : decode cX7_unlikePaces 78 = .ok (.lstore 5, 2) := by decide +kernel
theorem dX7_unlikePaces_80 : decode cX7_unlikePaces 80 = .ok (.iinc 7 1, 3) := by decide +kernel
theorem dX7_unlikePaces_83 : decode cX7_unlikePaces 83 = .ok (.goto (-65), 3) := by decide +kernel
theorem dX7_unlikePaces_86 : decode cX7_unlikePaces 86 = .ok (.lload_n 3, 1) := by decide +kernel
theorem dX7_unlikePaces_87 : decode cX7_unlikePaces 87 = .ok (.invokestatic 99, 3) := by decide +kernel
theorem dX7_unlikePaces_90 : decode cX7_unlikePaces 90 = .ok (.lload 5, 2) := by decide +kernel
theorem dX7_unlikePaces_92 : decode cX7_unlikePaces 92 = .ok (.invokestatic 99, 3) := by decide +kernel
theorem dX7_unlikePaces_95 : decode cX7_unlikePaces 95 = .ok (.iadd, 1) := by decide +kernel
theorem dX7_unlikePaces_96 : decode cX7_unlikePaces 96 = .ok (.ireturn, 1) := by decide +kernel
theorem dX7_span_0 : decode cX7_span 0 = .ok (.iconst 0, 1) := by decide +kernel
theorem dX7_span_1 : decode cX7_span 1 = .ok (.istore_n 2, 1) := by decide +kernel
theorem dX7_span_2 : decode cX7_span 2 = .ok (.iconst 0, 1) := by decide +kernel
theorem dX7_span_3 : decode cX7_span 3 = .ok (.istore_n 3, 1) := by decide +kernel
theorem dX7_span_4 : decode cX7_span 4 = .ok (.iload_n 3, 1) := by decide +kernel
theorem dX7_span_5 : decode cX7_span 5 = .ok (.bipush 100, 2) := by decide +kernel
theorem dX7_span_7 : decode cX7_span 7 = .ok (.if_icmp .ge 26, 3) := by decide +kernel
theorem dX7_span_10 : decode cX7_span 10 = .ok (.iload_n 2, 1) := by decide +kernel
theorem dX7_span_11 : decode cX7_span 11 = .ok (.aload_n 0, 1) := by decide +kernel
theorem dX7_span_12 : decode cX7_span 12 = .ok (.iload_n 3, 1) := by decide +kernel
theorem dX7_span_13 : decode cX7_span 13 = .ok (.iload_n 1, 1) := by decide +kernel
theorem dX7_span_14 : decode cX7_span 14 = .ok (.invokevirtual 105, 3) := by decide +kernel
theorem dX7_span_17 : decode cX7_span 17 = .ok (.ifCond .eq 7, 3) := by decide +kernel
theorem dX7_span_20 : decode cX7_span 20 = .ok (.iconst 1, 1) := by decide +kernel
theorem dX7_span_21 : decode cX7_span 21 = .ok (.goto 4, 3) := by decide +kernel
theorem dX7_span_24 : decode cX7_span 24 = .ok (.iconst 0, 1) := by decide +kernel
theorem dX7_span_25 : decode cX7_span 25 = .ok (.iadd, 1) := by decide +kernel
theorem dX7_span_26 : decode cX7_span 26 = .ok (.istore_n 2, 1) := by decide +kernel
theorem dX7_span_27 : decode cX7_span 27 = .ok (.iinc 3 1, 3) := by decide +kernel
theorem dX7_span_30 : decode cX7_span 30 = .ok (.goto (-26), 3) := by decide +kernel
theorem dX7_span_33 : decode cX7_span 33 = .ok (.iload_n 2, 1) := by decide +kernel
theorem dX7_span_34 : decode cX7_span 34 = .ok (.ireturn, 1) := by decide +kernel
theorem dX8_init_0 : decode cX8_init 0 = .ok (.aload_n 0, 1) := by decide +kernel
theorem dX8_init_1 : decode cX8_init 1 = .ok (.invokespecial 1, 3) := by decide +kernel
theorem dX8_init_4 : decode cX8_init 4 = .ok (.aload_n 0, 1) := by decide +kernel
theorem dX8_init_5 : decode cX8_init 5 = .ok (.bipush 6, 2) := by decide +kernel
theorem dX8_init_7 : decode cX8_init 7 = .ok (.anewarray 9, 3) := by decide +kernel
theorem dX8_init_10 : decode cX8_init 10 = .ok (.putfield 11, 3) := by decide +kernel
theorem dX8_init_13 : decode cX8_init 13 = .ok (.aload_n 0, 1) := by decide +kernel
theorem dX8_init_14 : decode cX8_init 14 = .ok (.iconst 4, 1) := by decide +kernel
theorem dX8_init_15 : decode cX8_init 15 = .ok (.anewarray 15, 3) := by decide +kernel
theorem dX8_init_18 : decode cX8_init 18 = .ok (.putfield 17, 3) := by decide +kernel
theorem dX8_init_21 : decode cX8_init 21 = .ok (.aload_n 0, 1) := by decide +kernel
theorem dX8_init_22 : decode cX8_init 22 = .ok (.iconst 4, 1) := by decide +kernel
theorem dX8_init_23 : decode cX8_init 23 = .ok (.anewarray 21, 3) := by decide +kernel
theorem dX8_init_26 : decode cX8_init 26 = .ok (.putfield 23, 3) := by decide +kernel
theorem dX8_init_29 : decode cX8_init 29 = .ok (.aload_n 0, 1) := by decide +kernel
theorem dX8_init_30 : decode cX8_init 30 = .ok (.iconst 4, 1) := by decide +kernel
theorem dX8_init_31 : decode cX8_init 31 = .ok (.anewarray 27, 3) := by decide +kernel
theorem dX8_init_34 : decode cX8_init 34 = .ok (.putfield 29, 3) := by decide +kernel
theorem dX8_init_37 : decode cX8_init 37 = .ok (.aload_n 0, 1) := by decide +kernel
theorem dX8_init_38 : decode cX8_init 38 = .ok (.new 33, 3) := by decide +kernel
theorem dX8_init_41 : decode cX8_init 41 = .ok (.dup, 1) := by decide +kernel
theorem dX8_init_42 : decode cX8_init 42 = .ok (.invokespecial 35, 3) := by decide +kernel
theorem dX8_init_45 : decode cX8_init 45 = .ok (.putfield 36, 3) := by decide +kernel
theorem dX8_init_48 : decode cX8_init 48 = .ok (.aload_n 0, 1) := by decide +kernel
theorem dX8_init_49 : decode cX8_init 49 = .ok (.iconst 3, 1) := by decide +kernel
theorem dX8_init_50 : decode cX8_init 50 = .ok (.anewarray 33, 3) := by decide +kernel
theorem dX8_init_53 : decode cX8_init 53 = .ok (.putfield 40, 3) := by decide +kernel
theorem dX8_init_56 : decode cX8_init 56 = .ok (.aload_n 0, 1) := by decide +kernel
theorem dX8_init_57 : decode cX8_init 57 = .ok (.new 44, 3) := by decide +kernel
theorem dX8_init_60 : decode cX8_init 60 = .ok (.dup, 1) := by decide +kernel
theorem dX8_init_61 : decode cX8_init 61 = .ok (.invokespecial 46, 3) := by decide +kernel
theorem dX8_init_64 : decode cX8_init 64 = .ok (.putfield 47, 3) := by decide +kernel
theorem dX8_init_67 : decode cX8_init 67 = .ok (.aload_n 0, 1) := by decide +kernel
theorem dX8_init_68 : decode cX8_init 68 = .ok (.new 51, 3) := by decide +kernel
theorem dX8_init_71 : decode cX8_init 71 = .ok (.dup, 1) := by decide +kernel
theorem dX8_init_72 : decode cX8_init 72 = .ok (.invokespecial 53, 3) := by decide +kernel
theorem dX8_init_75 : decode cX8_init 75 = .ok (.putfield 54, 3) := by decide +kernel
theorem dX8_init_78 : decode cX8_init 78 = .ok (.aload_n 0, 1) := by decide +kernel
theorem dX8_init_79 : decode cX8_init 79 = .ok (.new 33, 3) := by decide +kernel
theorem dX8_init_82 : decode cX8_init 82 = .ok (.dup, 1) := by decide +kernel
theorem dX8_init_83 : decode cX8_init 83 = .ok (.invokespecial 35, 3) := by decide +kernel
theorem dX8_init_86 : decode cX8_init 86 = .ok (.putfield 58, 3) := by decide +kernel
theorem dX8_init_89 : decode cX8_init 89 = .ok (.aload_n 0, 1) := by decide +kernel
theorem dX8_init_90 : decode cX8_init 90 = .ok (.new 61, 3) := by decide +kernel
theorem dX8_init_93 : decode cX8_init 93 = .ok (.dup, 1) := by decide +kernel
theorem dX8_init_94 : decode cX8_init 94 = .ok (.invokespecial 63, 3) := by decide +kernel
theorem dX8_init_97 : decode cX8_init 97 = .ok (.putfield 64, 3) := by decide +kernel
theorem dX8_init_100 : decode cX8_init 100 = .ok (.aload_n 0, 1) := by decide +kernel
theorem dX8_init_101 : decode cX8_init 101 = .ok (.bipush 6, 2) := by decide +kernel
theorem dX8_init_103 : decode cX8_init 103 = .ok (.newarray .int, 2) := by decide +kernel
theorem dX8_init_105 : decode cX8_init 105 = .ok (.putfield 68, 3) := by decide +kernel
theorem dX8_init_108 : decode cX8_init 108 = .ok (.aload_n 0, 1) := by decide +kernel
theorem dX8_init_109 : decode cX8_init 109 = .ok (.iconst 0, 1) := by decide +kernel
theorem dX8_init_110 : decode cX8_init 110 = .ok (.putfield 72, 3) := by decide +kernel
theorem dX8_init_113 : decode cX8_init 113 = .ok (.aload_n 0, 1) := by decide +kernel
theorem dX8_init_114 : decode cX8_init 114 = .ok (.iconst 0, 1) := by decide +kernel
theorem dX8_init_115 : decode cX8_init 115 = .ok (.putfield 76, 3) := by decide +kernel
theorem dX8_init_118 : decode cX8_init 118 = .ok (.aload_n 0, 1) := by decide +kernel
theorem dX8_init_119 : decode cX8_init 119 = .ok (.lconst 0, 1) := by decide +kernel
theorem dX8_init_120 : decode cX8_init 120 = .ok (.putfield 79, 3) := by decide +kernel
theorem dX8_init_123 : decode cX8_init 123 = .ok (.aload_n 0, 1) := by decide +kernel
theorem dX8_init_124 : decode cX8_init 124 = .ok (.lconst 1, 1) := by decide +kernel
theorem dX8_init_125 : decode cX8_init 125 = .ok (.putfield 83, 3) := by decide +kernel
theorem dX8_init_128 : decode cX8_init 128 = .ok (.iconst 0, 1) := by decide +kernel
theorem dX8_init_129 : decode cX8_init 129 = .ok (.istore_n 1, 1) := by decide +kernel
theorem dX8_init_130 : decode cX8_init 130 = .ok (.iload_n 1, 1) := by decide +kernel
theorem dX8_init_131 : decode cX8_init 131 = .ok (.bipush 6, 2) := by decide +kernel
theorem dX8_init_133 : decode cX8_init 133 = .ok (.if_icmp .ge 22, 3) := by decide +kernel
theorem dX8_init_136 : decode cX8_init 136 = .ok (.aload_n 0, 1) := by decide +kernel
theorem dX8_init_137 : decode cX8_init 137 = .ok (.getfield 11, 3) := by decide +kernel
theorem dX8_init_140 : decode cX8_init 140 = .ok (.iload_n 1, 1) := by decide +kernel
theorem dX8_init_141 : decode cX8_init 141 = .ok (.new 9, 3) := by decide +kernel
theorem dX8_init_144 : decode cX8_init 144 = .ok (.dup, 1) := by decide +kernel
theorem dX8_init_145 : decode cX8_init 145 = .ok (.invokespecial 86, 3) := by decide +kernel
theorem dX8_init_148 : decode cX8_init 148 = .ok (.aastore, 1) := by decide +kernel
theorem dX8_init_149 : decode cX8_init 149 = .ok (.iinc 1 1, 3) := by decide +kernel
theorem dX8_init_152 : decode cX8_init 152 = .ok (.goto (-22), 3) := by decide +kernel
theorem dX8_init_155 : decode cX8_init 155 = .ok (.iconst 0, 1) := by decide +kernel
theorem dX8_init_156 : decode cX8_init 156 = .ok (.istore_n 1, 1) := by decide +kernel
theorem dX8_init_157 : decode cX8_init 157 = .ok (.iload_n 1, 1) := by decide +kernel
theorem dX8_init_158 : decode cX8_init 158 = .ok (.iconst 4, 1) := by decide +kernel
theorem dX8_init_159 : decode cX8_init 159 = .ok (.if_icmp .ge 22, 3) := by decide +kernel
theorem dX8_init_162 : decode cX8_init 162 = .ok (.aload_n 0, 1) := by decide +kernel
theorem dX8_init_163 : decode cX8_init 163 = .ok (.getfield 17, 3) := by decide +kernel
theorem dX8_init_166 : decode cX8_init 166 = .ok (.iload_n 1, 1) := by decide +kernel
theorem dX8_init_167 : decode cX8_init 167 = .ok (.new 15, 3) := by decide +kernel
theorem dX8_init_170 : decode cX8_init 170 = .ok (.dup, 1) := by decide +kernel
theorem dX8_init_171 : decode cX8_init 171 = .ok (.invokespecial 87, 3) := by decide +kernel
theorem dX8_init_174 : decode cX8_init 174 = .ok (.aastore, 1) := by decide +kernel
theorem dX8_init_175 : decode cX8_init 175 = .ok (.iinc 1 1, 3) := by decide +kernel
theorem dX8_init_178 : decode cX8_init 178 = .ok (.goto (-21), 3) := by decide +kernel
theorem dX8_init_181 : decode cX8_init 181 = .ok (.iconst 0, 1) := by decide +kernel
theorem dX8_init_182 : decode cX8_init 182 = .ok (.istore_n 1, 1) := by decide +kernel
theorem dX8_init_183 : decode cX8_init 183 = .ok (.iload_n 1, 1) := by decide +kernel
theorem dX8_init_184 : decode cX8_init 184 = .ok (.iconst 4, 1) := by decide +kernel
theorem dX8_init_185 : decode cX8_init 185 = .ok (.if_icmp .ge 22, 3) := by decide +kernel
theorem dX8_init_188 : decode cX8_init 188 = .ok (.aload_n 0, 1) := by decide +kernel
theorem dX8_init_189 : decode cX8_init 189 = .ok (.getfield 23, 3) := by decide +kernel
theorem dX8_init_192 : decode cX8_init 192 = .ok (.iload_n 1, 1) := by decide +kernel
theorem dX8_init_193 : decode cX8_init 193 = .ok (.new 21, 3) := by decide +kernel
theorem dX8_init_196 : decode cX8_init 196 = .ok (.dup, 1) := by decide +kernel
theorem dX8_init_197 : decode cX8_init 197 = .ok (.invokespecial 88, 3) := by decide +kernel
theorem dX8_init_200 : decode cX8_init 200 = .ok (.aastore, 1) := by decide +kernel
theorem dX8_init_201 : decode cX8_init 201 = .ok (.iinc 1 1, 3) := by decide +kernel
theorem dX8_init_204 : decode cX8_init 204 = .ok (.goto (-21), 3) := by decide +kernel
theorem dX8_init_207 : decode cX8_init 207 = .ok (.iconst 0, 1) := by decide +kernel
theorem dX8_init_208 : decode cX8_init 208 = .ok (.istore_n 1, 1) := by decide +kernel
theorem dX8_init_209 : decode cX8_init 209 = .ok (.iload_n 1, 1) := by decide +kernel
theorem dX8_init_210 : decode cX8_init 210 = .ok (.iconst 4, 1) := by decide +kernel
theorem dX8_init_211 : decode cX8_init 211 = .ok (.if_icmp .ge 22, 3) := by decide +kernel
theorem dX8_init_214 : decode cX8_init 214 = .ok (.aload_n 0, 1) := by decide +kernel
theorem dX8_init_215 : decode cX8_init 215 = .ok (.getfield 29, 3) := by decide +kernel
theorem dX8_init_218 : decode cX8_init 218 = .ok (.iload_n 1, 1) := by decide +kernel
theorem dX8_init_219 : decode cX8_init 219 = .ok (.new 27, 3) := by decide +kernel
theorem dX8_init_222 : decode cX8_init 222 = .ok (.dup, 1) := by decide +kernel
theorem dX8_init_223 : decode cX8_init 223 = .ok (.invokespecial 89, 3) := by decide +kernel
theorem dX8_init_226 : decode cX8_init 226 = .ok (.aastore, 1) := by decide +kernel
theorem dX8_init_227 : decode cX8_init 227 = .ok (.iinc 1 1, 3) := by decide +kernel
theorem dX8_init_230 : decode cX8_init 230 = .ok (.goto (-21), 3) := by decide +kernel
theorem dX8_init_233 : decode cX8_init 233 = .ok (.iconst 0, 1) := by decide +kernel
theorem dX8_init_234 : decode cX8_init 234 = .ok (.istore_n 1, 1) := by decide +kernel
theorem dX8_init_235 : decode cX8_init 235 = .ok (.iload_n 1, 1) := by decide +kernel
theorem dX8_init_236 : decode cX8_init 236 = .ok (.iconst 3, 1) := by decide +kernel
theorem dX8_init_237 : decode cX8_init 237 = .ok (.if_icmp .ge 22, 3) := by decide +kernel
theorem dX8_init_240 : decode cX8_init 240 = .ok (.aload_n 0, 1) := by decide +kernel
theorem dX8_init_241 : decode cX8_init 241 = .ok (.getfield 40, 3) := by decide +kernel
theorem dX8_init_244 : decode cX8_init 244 = .ok (.iload_n 1, 1) := by decide +kernel
theorem dX8_init_245 : decode cX8_init 245 = .ok (.new 33, 3) := by decide +kernel
theorem dX8_init_248 : decode cX8_init 248 = .ok (.dup, 1) := by decide +kernel
theorem dX8_init_249 : decode cX8_init 249 = .ok (.invokespecial 35, 3) := by decide +kernel
theorem dX8_init_252 : decode cX8_init 252 = .ok (.aastore, 1) := by decide +kernel
theorem dX8_init_253 : decode cX8_init 253 = .ok (.iinc 1 1, 3) := by decide +kernel
theorem dX8_init_256 : decode cX8_init 256 = .ok (.goto (-21), 3) := by decide +kernel
theorem dX8_init_259 : decode cX8_init 259 = .ok (.return_, 1) := by decide +kernel
theorem dX8_isOutside_0 : decode cX8_isOutside 0 = .ok (.iload_n 0, 1) := by decide +kernel
theorem dX8_isOutside_1 : decode cX8_isOutside 1 = .ok (.iload_n 1, 1) := by decide +kernel
theorem dX8_isOutside_2 : decode cX8_isOutside 2 = .ok (.if_icmp .lt 8, 3) := by decide +kernel
theorem dX8_isOutside_5 : decode cX8_isOutside 5 = .ok (.iload_n 0, 1) := by decide +kernel
theorem dX8_isOutside_6 : decode cX8_isOutside 6 = .ok (.iload_n 2, 1) := by decide +kernel
theorem dX8_isOutside_7 : decode cX8_isOutside 7 = .ok (.if_icmp .le 7, 3) := by decide +kernel
theorem dX8_isOutside_10 : decode cX8_isOutside 10 = .ok (.iconst 1, 1) := by decide +kernel
theorem dX8_isOutside_11 : decode cX8_isOutside 11 = .ok (.goto 4, 3) := by decide +kernel
theorem dX8_isOutside_14 : decode cX8_isOutside 14 = .ok (.iconst 0, 1) := by decide +kernel
theorem dX8_isOutside_15 : decode cX8_isOutside 15 = .ok (.ireturn, 1) := by decide +kernel
theorem dX8_noRow_0 : decode cX8_noRow 0 = .ok (.iload_n 0, 1) := by decide +kernel
theorem dX8_noRow_1 : decode cX8_noRow 1 = .ok (.iconst 0, 1) := by decide +kernel
theorem dX8_noRow_2 : decode cX8_noRow 2 = .ok (.iconst 5, 1) := by decide +kernel
theorem dX8_noRow_3 : decode cX8_noRow 3 = .ok (.invokestatic 90, 3) := by decide +kernel
theorem dX8_noRow_6 : decode cX8_noRow 6 = .ok (.ireturn, 1) := by decide +kernel
theorem dX8_noText_0 : decode cX8_noText 0 = .ok (.iload_n 0, 1) := by decide +kernel
theorem dX8_noText_1 : decode cX8_noText 1 = .ok (.iconst 0, 1) := by decide +kernel
theorem dX8_noText_2 : decode cX8_noText 2 = .ok (.iconst 3, 1) := by decide +kernel
theorem dX8_noText_3 : decode cX8_noText 3 = .ok (.invokestatic 90, 3) := by decide +kernel
theorem dX8_noText_6 : decode cX8_noText 6 = .ok (.ireturn, 1) := by decide +kernel
theorem dX8_noWalker_0 : decode cX8_noWalker 0 = .ok (.iload_n 0, 1) := by decide +kernel
theorem dX8_noWalker_1 : decode cX8_noWalker 1 = .ok (.iconst 0, 1) := by decide +kernel
theorem dX8_noWalker_2 : decode cX8_noWalker 2 = .ok (.iconst 3, 1) := by decide +kernel
theorem dX8_noWalker_3 : decode cX8_noWalker 3 = .ok (.invokestatic 90, 3) := by decide +kernel
theorem dX8_noWalker_6 : decode cX8_noWalker 6 = .ok (.ireturn, 1) := by decide +kernel
theorem dX8_noBoard_0 : decode cX8_noBoard 0 = .ok (.iload_n 0, 1) := by decide +kernel
theorem dX8_noBoard_1 : decode cX8_noBoard 1 = .ok (.iconst 0, 1) := by decide +kernel
theorem dX8_noBoard_2 : decode cX8_noBoard 2 = .ok (.iconst 3, 1) := by decide +kernel
theorem dX8_noBoard_3 : decode cX8_noBoard 3 = .ok (.invokestatic 90, 3) := by decide +kernel
theorem dX8_noBoard_6 : decode cX8_noBoard 6 = .ok (.ireturn, 1) := by decide +kernel
theorem dX8_noSlope_0 : decode cX8_noSlope 0 = .ok (.iload_n 0, 1) := by decide +kernel
theorem dX8_noSlope_1 : decode cX8_noSlope 1 = .ok (.iconst 0, 1) := by decide +kernel
theorem dX8_noSlope_2 : decode cX8_noSlope 2 = .ok (.bipush 99, 2) := by decide +kernel
theorem dX8_noSlope_4 : decode cX8_noSlope 4 = .ok (.invokestatic 90, 3) := by decide +kernel
theorem dX8_noSlope_7 : decode cX8_noSlope 7 = .ok (.ireturn, 1) := by decide +kernel
theorem dX8_noPace_0 : decode cX8_noPace 0 = .ok (.iload_n 0, 1) := by decide +kernel
theorem dX8_noPace_1 : decode cX8_noPace 1 = .ok (.iconst 0, 1) := by decide +kernel
theorem dX8_noPace_2 : decode cX8_noPace 2 = .ok (.bipush 99, 2) := by decide +kernel
theorem dX8_noPace_4 : decode cX8_noPace 4 = .ok (.invokestatic 90, 3) := by decide +kernel
theorem dX8_noPace_7 : decode cX8_noPace 7 = .ok (.ireturn, 1) := by decide +kernel
theorem dX8_noPair_0 : decode cX8_noPair 0 = .ok (.iload_n 0, 1) := by decide +kernel
theorem dX8_noPair_1 : decode cX8_noPair 1 = .ok (.invokestatic 94, 3) := by decide +kernel
theorem dX8_noPair_4 : decode cX8_noPair 4 = .ok (.ifCond .ne 17, 3) := by decide +kernel
theorem dX8_noPair_7 : decode cX8_noPair 7 = .ok (.iload_n 1, 1) := by decide +kernel
theorem dX8_noPair_8 : decode cX8_noPair 8 = .ok (.invokestatic 98, 3) := by decide +kernel
theorem dX8_noPair_11 : decode cX8_noPair 11 = .ok (.ifCond .ne 10, 3) := by decide +kernel
theorem dX8_noPair_14 : decode cX8_noPair 14 = .ok (.iload_n 2, 1) := by decide +kernel
theorem dX8_noPair_15 : decode cX8_noPair 15 = .ok (.invokestatic 101, 3) := by decide +kernel
theorem dX8_noPair_18 : decode cX8_noPair 18 = .ok (.ifCond .eq 7, 3) := by decide +kernel
theorem dX8_noPair_21 : decode cX8_noPair 21 = .ok (.iconst 1, 1) := by decide +kernel
theorem dX8_noPair_22 : decode cX8_noPair 22 = .ok (.goto 4, 3) := by decide +kernel
theorem dX8_noPair_25 : decode cX8_noPair 25 = .ok (.iconst 0, 1) := by decide +kernel
theorem dX8_noPair_26 : decode cX8_noPair 26 = .ok (.ireturn, 1) := by decide +kernel
theorem dX8_noGoing_0 : decode cX8_noGoing 0 = .ok (.iload_n 0, 1) := by decide +kernel
theorem dX8_noGoing_1 : decode cX8_noGoing 1 = .ok (.iload_n 1, 1) := by decide +kernel
theorem dX8_noGoing_2 : decode cX8_noGoing 2 = .ok (.iload_n 3, 1) := by decide +kernel
theorem dX8_noGoing_3 : decode cX8_noGoing 3 = .ok (.invokestatic 104, 3) := by decide +kernel
theorem dX8_noGoing_6 : decode cX8_noGoing 6 = .ok (.ifCond .ne 10, 3) := by decide +kernel
theorem dX8_noGoing_9 : decode cX8_noGoing 9 = .ok (.iload_n 2, 1) := by decide +kernel
theorem dX8_noGoing_10 : decode cX8_noGoing 10 = .ok (.invokestatic 107, 3) := by decide +kernel
theorem dX8_noGoing_13 : decode cX8_noGoing 13 = .ok (.ifCond .eq 7, 3) := by decide +kernel
theorem dX8_noGoing_16 : decode cX8_noGoing 16 = .ok (.iconst 1, 1) := by decide +kernel
theorem dX8_noGoing_17 : decode cX8_noGoing 17 = .ok (.goto 4, 3) := by decide +kernel
theorem dX8_noGoing_20 : decode cX8_noGoing 20 = .ok (.iconst 0, 1) := by decide +kernel
theorem dX8_noGoing_21 : decode cX8_noGoing 21 = .ok (.ireturn, 1) := by decide +kernel
theorem dX8_found_0 : decode cX8_found 0 = .ok (.aload_n 0, 1) := by decide +kernel
theorem dX8_found_1 : decode cX8_found 1 = .ok (.iload_n 1, 1) := by decide +kernel
theorem dX8_found_2 : decode cX8_found 2 = .ok (.putfield 72, 3) := by decide +kernel
theorem dX8_found_5 : decode cX8_found 5 = .ok (.aload_n 0, 1) := by decide +kernel
theorem dX8_found_6 : decode cX8_found 6 = .ok (.getfield 68, 3) := by decide +kernel
theorem dX8_found_9 : decode cX8_found 9 = .ok (.iload_n 1, 1) := by decide +kernel
theorem dX8_found_10 : decode cX8_found 10 = .ok (.dup2, 1) := by decide +kernel
theorem dX8_found_11 : decode cX8_found 11 = .ok (.iaload, 1) := by decide +kernel
theorem dX8_found_12 : decode cX8_found 12 = .ok (.iconst 1, 1) := by decide +kernel
theorem dX8_found_13 : decode cX8_found 13 = .ok (.iadd, 1) := by decide +kernel
theorem dX8_found_14 : decode cX8_found 14 = .ok (.iastore, 1) := by decide +kernel
theorem dX8_found_15 : decode cX8_found 15 = .ok (.bipush (-3), 2) := by decide +kernel
theorem dX8_found_17 : decode cX8_found 17 = .ok (.ireturn, 1) := by decide +kernel
theorem dX8_tell_0 : decode cX8_tell 0 = .ok (.aload_n 0, 1) := by decide +kernel
theorem dX8_tell_1 : decode cX8_tell 1 = .ok (.iload_n 1, 1) := by decide +kernel
theorem dX8_tell_2 : decode cX8_tell 2 = .ok (.putfield 76, 3) := by decide +kernel
theorem dX8_tell_5 : decode cX8_tell 5 = .ok (.iconst 1, 1) := by decide +kernel
theorem dX8_tell_6 : decode cX8_tell 6 = .ok (.ireturn, 1) := by decide +kernel
theorem dX8_isReady_0 : decode cX8_isReady 0 = .ok (.aload_n 0, 1) := by decide +kernel
theorem dX8_isReady_1 : decode cX8_isReady 1 = .ok (.getfield 23, 3) := by decide +kernel
theorem dX8_isReady_4 : decode cX8_isReady 4 = .ok (.iload_n 1, 1) := by decide +kernel
theorem dX8_isReady_5 : decode cX8_isReady 5 = .ok (.aaload, 1) := by decide +kernel
theorem dX8_isReady_6 : decode cX8_isReady 6 = .ok (.getfield 110, 3) := by decide +kernel
theorem dX8_isReady_9 : decode cX8_isReady 9 = .ok (.ifCond .eq 15, 3) := by decide +kernel
theorem dX8_isReady_12 : decode cX8_isReady 12 = .ok (.aload_n 0, 1) := by decide +kernel
theorem dX8_isReady_13 : decode cX8_isReady 13 = .ok (.getfield 29, 3) := by decide +kernel
theorem dX8_isReady_16 : decode cX8_isReady 16 = .ok (.iload_n 2, 1) := by decide +kernel
theorem dX8_isReady_17 : decode cX8_isReady 17 = .ok (.aaload, 1) := by decide +kernel
theorem dX8_isReady_18 : decode cX8_isReady 18 = .ok (.getfield 114, 3) := by decide +kernel
theorem dX8_isReady_21 : decode cX8_isReady 21 = .ok (.ifCond .ne 5, 3) := by decide +kernel
theorem dX8_isReady_24 : decode cX8_isReady 24 = .ok (.iconst 0, 1) := by decide +kernel
theorem dX8_isReady_25 : decode cX8_isReady 25 = .ok (.ireturn, 1) := by decide +kernel
theorem dX8_isReady_26 : decode cX8_isReady 26 = .ok (.aload_n 0, 1) := by decide +kernel
theorem dX8_isReady_27 : decode cX8_isReady 27 = .ok (.getfield 54, 3) := by decide +kernel
theorem dX8_isReady_30 : decode cX8_isReady 30 = .ok (.getfield 115, 3) := by decide +kernel
theorem dX8_isReady_33 : decode cX8_isReady 33 = .ok (.getfield 116, 3) := by decide +kernel
theorem dX8_isReady_36 : decode cX8_isReady 36 = .ok (.aload_n 0, 1) := by decide +kernel
theorem dX8_isReady_37 : decode cX8_isReady 37 = .ok (.getfield 23, 3) := by decide +kernel
theorem dX8_isReady_40 : decode cX8_isReady 40 = .ok (.iload_n 1, 1) := by decide +kernel
theorem dX8_isReady_41 : decode cX8_isReady 41 = .ok (.aaload, 1) := by decide +kernel
theorem dX8_isReady_42 : decode cX8_isReady 42 = .ok (.invokevirtual 120, 3) := by decide +kernel
theorem dX8_isReady_45 : decode cX8_isReady 45 = .ok (.aload_n 0, 1) := by decide +kernel
theorem dX8_isReady_46 : decode cX8_isReady 46 = .ok (.getfield 54, 3) := by decide +kernel
theorem dX8_isReady_49 : decode cX8_isReady 49 = .ok (.getfield 115, 3) := by decide +kernel
theorem dX8_isReady_52 : decode cX8_isReady 52 = .ok (.getfield 124, 3) := by decide +kernel
theorem dX8_isReady_55 : decode cX8_isReady 55 = .ok (.invokevirtual 128, 3) := by decide +kernel
theorem dX8_isReady_58 : decode cX8_isReady 58 = .ok (.aload_n 0, 1) := by decide +kernel
theorem dX8_isReady_59 : decode cX8_isReady 59 = .ok (.getfield 54, 3) := by decide +kernel
theorem dX8_isReady_62 : decode cX8_isReady 62 = .ok (.getfield 115, 3) := by decide +kernel
theorem dX8_isReady_65 : decode cX8_isReady 65 = .ok (.getfield 124, 3) := by decide +kernel
theorem dX8_isReady_68 : decode cX8_isReady 68 = .ok (.aload_n 0, 1) := by decide +kernel
theorem dX8_isReady_69 : decode cX8_isReady 69 = .ok (.getfield 29, 3) := by decide +kernel
theorem dX8_isReady_72 : decode cX8_isReady 72 = .ok (.iload_n 2, 1) := by decide +kernel
theorem dX8_isReady_73 : decode cX8_isReady 73 = .ok (.aaload, 1) := by decide +kernel
theorem dX8_isReady_74 : decode cX8_isReady 74 = .ok (.getfield 131, 3) := by decide +kernel
theorem dX8_isReady_77 : decode cX8_isReady 77 = .ok (.putfield 131, 3) := by decide +kernel
theorem dX8_isReady_80 : decode cX8_isReady 80 = .ok (.iconst 1, 1) := by decide +kernel
theorem dX8_isReady_81 : decode cX8_isReady 81 = .ok (.ireturn, 1) := by decide +kernel
theorem dX8_tellFraction_0 : decode cX8_tellFraction 0 = .ok (.iconst 1, 1) := by decide +kernel
theorem dX8_tellFraction_1 : decode cX8_tellFraction 1 = .ok (.iload_n 1, 1) := by decide +kernel
theorem dX8_tellFraction_2 : decode cX8_tellFraction 2 = .ok (.iload_n 2, 1) := by decide +kernel
theorem dX8_tellFraction_3 : decode cX8_tellFraction 3 = .ok (.invokestatic 134, 3) := by decide +kernel
theorem dX8_tellFraction_6 : decode cX8_tellFraction 6 = .ok (.invokestatic 138, 3) := by decide +kernel
theorem dX8_tellFraction_9 : decode cX8_tellFraction 9 = .ok (.istore_n 3, 1) := by decide +kernel
theorem dX8_tellFraction_10 : decode cX8_tellFraction 10 = .ok (.aload_n 0, 1) := by decide +kernel
theorem dX8_tellFraction_11 : decode cX8_tellFraction 11 = .ok (.iload_n 1, 1) := by decide +kernel
theorem dX8_tellFraction_12 : decode cX8_tellFraction 12 = .ok (.iload_n 3, 1) := by decide +kernel
theorem dX8_tellFraction_13 : decode cX8_tellFraction 13 = .ok (.idiv, 1) := by decide +kernel
theorem dX8_tellFraction_14 : decode cX8_tellFraction 14 = .ok (.i2l, 1) := by decide +kernel
theorem dX8_tellFraction_15 : decode cX8_tellFraction 15 = .ok (.putfield 79, 3) := by decide +kernel
theorem dX8_tellFraction_18 : decode cX8_tellFraction 18 = .ok (.aload_n 0, 1) := by decide +kernel
theorem dX8_tellFraction_19 : decode cX8_tellFraction 19 = .ok (.iconst 1, 1) := by decide +kernel
theorem dX8_tellFraction_20 : decode cX8_tellFraction 20 = .ok (.iload_n 2, 1) := by decide +kernel
theorem dX8_tellFraction_21 : decode cX8_tellFraction 21 = .ok (.iload_n 3, 1) := by decide +kernel
theorem dX8_tellFraction_22 : decode cX8_tellFraction 22 = .ok (.idiv, 1) := by decide +kernel
theorem dX8_tellFraction_23 : decode cX8_tellFraction 23 = .ok (.invokestatic 138, 3) := by decide +kernel
theorem dX8_tellFraction_26 : decode cX8_tellFraction 26 = .ok (.i2l, 1) := by decide +kernel
theorem dX8_tellFraction_27 : decode cX8_tellFraction 27 = .ok (.putfield 83, 3) := by decide +kernel
theorem dX8_tellFraction_30 : decode cX8_tellFraction 30 = .ok (.return_, 1) := by decide +kernel
theorem dX8_divisor_0 : decode cX8_divisor 0 = .ok (.iload_n 0, 1) := by decide +kernel
theorem dX8_divisor_1 : decode cX8_divisor 1 = .ok (.invokestatic 143, 3) := by decide +kernel
theorem dX8_divisor_4 : decode cX8_divisor 4 = .ok (.istore_n 2, 1) := by decide +kernel
theorem dX8_divisor_5 : decode cX8_divisor 5 = .ok (.iload_n 1, 1) := by decide +kernel
theorem dX8_divisor_6 : decode cX8_divisor 6 = .ok (.invokestatic 143, 3) := by decide +kernel
theorem dX8_divisor_9 : decode cX8_divisor 9 = .ok (.istore_n 3, 1) := by decide +kernel
theorem dX8_divisor_10 : decode cX8_divisor 10 = .ok (.iconst 0, 1) := by decide +kernel
theorem dX8_divisor_11 : decode cX8_divisor 11 = .ok (.istore 4, 2) := by decide +kernel
theorem dX8_divisor_13 : decode cX8_divisor 13 = .ok (.iload 4, 2) := by decide +kernel
theorem dX8_divisor_15 : decode cX8_divisor 15 = .ok (.bipush 64, 2) := by decide +kernel
theorem dX8_divisor_17 : decode cX8_divisor 17 = .ok (.if_icmp .ge 23, 3) := by decide +kernel
theorem dX8_divisor_20 : decode cX8_divisor 20 = .ok (.iload_n 3, 1) := by decide +kernel
theorem dX8_divisor_21 : decode cX8_divisor 21 = .ok (.ifCond .eq 19, 3) := by decide +kernel
theorem dX8_divisor_24 : decode cX8_divisor 24 = .ok (.iload_n 2, 1) := by decide +kernel
theorem dX8_divisor_25 : decode cX8_divisor 25 = .ok (.iload_n 3, 1) := by decide +kernel
theorem dX8_divisor_26 : decode cX8_divisor 26 = .ok (.irem, 1) := by decide +kernel
theorem dX8_divisor_27 : decode cX8_divisor 27 = .ok (.istore 5, 2) := by decide +kernel
theorem dX8_divisor_29 : decode cX8_divisor 29 = .ok (.iload_n 3, 1) := by decide +kernel
theorem dX8_divisor_30 : decode cX8_divisor 30 = .ok (.istore_n 2, 1) := by decide +kernel
theorem dX8_divisor_31 : decode cX8_divisor 31 = .ok (.iload 5, 2) := by decide +kernel
theorem dX8_divisor_33 : decode cX8_divisor 33 = .ok (.istore_n 3, 1) := by decide +kernel
theorem dX8_divisor_34 : decode cX8_divisor 34 = .ok (.iinc 4 1, 3) := by decide +kernel
theorem dX8_divisor_37 : decode cX8_divisor 37 = .ok (.goto (-24), 3) := by decide +kernel
theorem dX8_divisor_40 : decode cX8_divisor 40 = .ok (.iload_n 2, 1) := by decide +kernel
theorem dX8_divisor_41 : decode cX8_divisor 41 = .ok (.ireturn, 1) := by decide +kernel
theorem dX8_row_0 : decode cX8_row 0 = .ok (.iload_n 1, 1) := by decide +kernel
theorem dX8_row_1 : decode cX8_row 1 = .ok (.invokestatic 147, 3) := by decide +kernel
theorem dX8_row_4 : decode cX8_row 4 = .ok (.ifCond .ne 9, 3) := by decide +kernel
theorem dX8_row_7 : decode cX8_row 7 = .ok (.iload_n 2, 1) := by decide +kernel
theorem dX8_row_8 : decode cX8_row 8 = .ok (.bipush 60, 2) := by decide +kernel
theorem dX8_row_10 : decode cX8_row 10 = .ok (.if_icmp .le 5, 3) := by decide +kernel
theorem dX8_row_13 : decode cX8_row 13 = .ok (.iconst (-1), 1) := by decide +kernel
theorem dX8_row_14 : decode cX8_row 14 = .ok (.ireturn, 1) := by decide +kernel
theorem dX8_row_15 : decode cX8_row 15 = .ok (.iload_n 2, 1) := by decide +kernel
theorem dX8_row_16 : decode cX8_row 16 = .ok (.ifCond .ge 9, 3) := by decide +kernel
theorem dX8_row_19 : decode cX8_row 19 = .ok (.aload_n 0, 1) := by decide +kernel
theorem dX8_row_20 : decode cX8_row 20 = .ok (.iconst 5, 1) := by decide +kernel
theorem dX8_row_21 : decode cX8_row 21 = .ok (.invokevirtual 150, 3) := by decide +kernel
theorem dX8_row_24 : decode cX8_row 24 = .ok (.ireturn, 1) := by decide +kernel
theorem dX8_row_25 : decode cX8_row 25 = .ok (.aload_n 0, 1) := by decide +kernel
theorem dX8_row_26 : decode cX8_row 26 = .ok (.getfield 11, 3) := by decide +kernel
theorem dX8_row_29 : decode cX8_row 29 = .ok (.iload_n 1, 1) := by decide +kernel
theorem dX8_row_30 : decode cX8_row 30 = .ok (.aaload, 1) := by decide +kernel
theorem dX8_row_31 : decode cX8_row 31 = .ok (.iload_n 2, 1) := by decide +kernel
theorem dX8_row_32 : decode cX8_row 32 = .ok (.invokevirtual 153, 3) := by decide +kernel
theorem dX8_row_35 : decode cX8_row 35 = .ok (.iload_n 2, 1) := by decide +kernel
theorem dX8_row_36 : decode cX8_row 36 = .ok (.ireturn, 1) := by decide +kernel
theorem dX8_lay_0 : decode cX8_lay 0 = .ok (.iload_n 1, 1) := by decide +kernel
theorem dX8_lay_1 : decode cX8_lay 1 = .ok (.invokestatic 147, 3) := by decide +kernel
theorem dX8_lay_4 : decode cX8_lay 4 = .ok (.ifCond .eq 5, 3) := by decide +kernel
theorem dX8_lay_7 : decode cX8_lay 7 = .ok (.iconst (-1), 1) := by decide +kernel
theorem dX8_lay_8 : decode cX8_lay 8 = .ok (.ireturn, 1) := by decide +kernel
theorem dX8_lay_9 : decode cX8_lay 9 = .ok (.aload_n 0, 1) := by decide +kernel
theorem dX8_lay_10 : decode cX8_lay 10 = .ok (.getfield 11, 3) := by decide +kernel
theorem dX8_lay_13 : decode cX8_lay 13 = .ok (.iload_n 1, 1) := by decide +kernel
theorem dX8_lay_14 : decode cX8_lay 14 = .ok (.aaload, 1) := by decide +kernel
theorem dX8_lay_15 : decode cX8_lay 15 = .ok (.astore 4, 2) := by decide +kernel
theorem dX8_lay_17 : decode cX8_lay 17 = .ok (.aload 4, 2) := by decide +kernel
theorem dX8_lay_19 : decode cX8_lay 19 = .ok (.invokevirtual 157, 3) := by decide +kernel
theorem dX8_lay_22 : decode cX8_lay 22 = .ok (.ifCond .eq 9, 3) := by decide +kernel
theorem dX8_lay_25 : decode cX8_lay 25 = .ok (.aload_n 0, 1) := by decide +kernel
theorem dX8_lay_26 : decode cX8_lay 26 = .ok (.iconst 1, 1) := by decide +kernel
theorem dX8_lay_27 : decode cX8_lay 27 = .ok (.invokevirtual 150, 3) := by decide +kernel
theorem dX8_lay_30 : decode cX8_lay 30 = .ok (.ireturn, 1) := by decide +kernel
theorem dX8_lay_31 : decode cX8_lay 31 = .ok (.aload 4, 2) := by decide +kernel
theorem dX8_lay_33 : decode cX8_lay 33 = .ok (.iload_n 2, 1) := by decide +kernel
theorem dX8_lay_34 : decode cX8_lay 34 = .ok (.invokevirtual 161, 3) := by decide +kernel
theorem dX8_lay_37 : decode cX8_lay 37 = .ok (.ifCond .ne 9, 3) := by decide +kernel
theorem dX8_lay_40 : decode cX8_lay 40 = .ok (.aload_n 0, 1) := by decide +kernel
theorem dX8_lay_41 : decode cX8_lay 41 = .ok (.iconst 2, 1) := by decide +kernel
theorem dX8_lay_42 : decode cX8_lay 42 = .ok (.invokevirtual 150, 3) := by decide +kernel
theorem dX8_lay_45 : decode cX8_lay 45 = .ok (.ireturn, 1) := by decide +kernel
theorem dX8_lay_46 : decode cX8_lay 46 = .ok (.aload 4, 2) := by decide +kernel
theorem dX8_lay_48 : decode cX8_lay 48 = .ok (.getfield 164, 3) := by decide +kernel
theorem dX8_lay_51 : decode cX8_lay 51 = .ok (.iload_n 2, 1) := by decide +kernel
theorem dX8_lay_52 : decode cX8_lay 52 = .ok (.iaload, 1) := by decide +kernel
theorem dX8_lay_53 : decode cX8_lay 53 = .ok (.istore 5, 2) := by decide +kernel
theorem dX8_lay_55 : decode cX8_lay 55 = .ok (.aload 4, 2) := by decide +kernel
theorem dX8_lay_57 : decode cX8_lay 57 = .ok (.getfield 164, 3) := by decide +kernel
theorem dX8_lay_60 : decode cX8_lay 60 = .ok (.iload_n 2, 1) := by decide +kernel
theorem dX8_lay_61 : decode cX8_lay 61 = .ok (.iload_n 3, 1) := by decide +kernel
theorem dX8_lay_62 : decode cX8_lay 62 = .ok (.iastore, 1) := by decide +kernel
theorem dX8_lay_63 : decode cX8_lay 63 = .ok (.aload_n 0, 1) := by decide +kernel
theorem dX8_lay_64 : decode cX8_lay 64 = .ok (.iload 5, 2) := by decide +kernel
theorem dX8_lay_66 : decode cX8_lay 66 = .ok (.invokevirtual 167, 3) := by decide +kernel
theorem dX8_lay_69 : decode cX8_lay 69 = .ok (.ireturn, 1) := by decide +kernel
theorem dX8_at_0 : decode cX8_at 0 = .ok (.iload_n 1, 1) := by decide +kernel
theorem dX8_at_1 : decode cX8_at 1 = .ok (.invokestatic 147, 3) := by decide +kernel
theorem dX8_at_4 : decode cX8_at 4 = .ok (.ifCond .eq 5, 3) := by decide +kernel
theorem dX8_at_7 : decode cX8_at 7 = .ok (.iconst (-1), 1) := by decide +kernel
theorem dX8_at_8 : decode cX8_at 8 = .ok (.ireturn, 1) := by decide +kernel
theorem dX8_at_9 : decode cX8_at 9 = .ok (.aload_n 0, 1) := by decide +kernel
theorem dX8_at_10 : decode cX8_at 10 = .ok (.getfield 11, 3) := by decide +kernel
theorem dX8_at_13 : decode cX8_at 13 = .ok (.iload_n 1, 1) := by decide +kernel
theorem dX8_at_14 : decode cX8_at 14 = .ok (.aaload, 1) := by decide +kernel
theorem dX8_at_15 : decode cX8_at 15 = .ok (.astore_n 3, 1) := by decide +kernel
theorem dX8_at_16 : decode cX8_at 16 = .ok (.aload_n 3, 1) := by decide +kernel
theorem dX8_at_17 : decode cX8_at 17 = .ok (.invokevirtual 157, 3) := by decide +kernel
theorem dX8_at_20 : decode cX8_at 20 = .ok (.ifCond .eq 9, 3) := by decide +kernel
theorem dX8_at_23 : decode cX8_at 23 = .ok (.aload_n 0, 1) := by decide +kernel
theorem dX8_at_24 : decode cX8_at 24 = .ok (.iconst 1, 1) := by decide +kernel
theorem dX8_at_25 : decode cX8_at 25 = .ok (.invokevirtual 150, 3) := by decide +kernel
theorem dX8_at_28 : decode cX8_at 28 = .ok (.ireturn, 1) := by decide +kernel
theorem dX8_at_29 : decode cX8_at 29 = .ok (.aload_n 3, 1) := by decide +kernel
theorem dX8_at_30 : decode cX8_at 30 = .ok (.iload_n 2, 1) := by decide +kernel
theorem dX8_at_31 : decode cX8_at 31 = .ok (.invokevirtual 161, 3) := by decide +kernel
theorem dX8_at_34 : decode cX8_at 34 = .ok (.ifCond .ne 9, 3) := by decide +kernel
theorem dX8_at_37 : decode cX8_at 37 = .ok (.aload_n 0, 1) := by decide +kernel
theorem dX8_at_38 : decode cX8_at 38 = .ok (.iconst 2, 1) := by decide +kernel
theorem dX8_at_39 : decode cX8_at 39 = .ok (.invokevirtual 150, 3) := by decide +kernel
theorem dX8_at_42 : decode cX8_at 42 = .ok (.ireturn, 1) := by decide +kernel
theorem dX8_at_43 : decode cX8_at 43 = .ok (.aload_n 0, 1) := by decide +kernel
theorem dX8_at_44 : decode cX8_at 44 = .ok (.aload_n 3, 1) := by decide +kernel
theorem dX8_at_45 : decode cX8_at 45 = .ok (.getfield 164, 3) := by decide +kernel
theorem dX8_at_48 : decode cX8_at 48 = .ok (.iload_n 2, 1) := by decide +kernel
theorem dX8_at_49 : decode cX8_at 49 = .ok (.iaload, 1) := by decide +kernel
theorem dX8_at_50 : decode cX8_at 50 = .ok (.invokevirtual 167, 3) := by decide +kernel
theorem dX8_at_53 : decode cX8_at 53 = .ok (.ireturn, 1) := by decide +kernel
theorem dX8_tear_0 : decode cX8_tear 0 = .ok (.iload_n 1, 1) := by decide +kernel
theorem dX8_tear_1 : decode cX8_tear 1 = .ok (.invokestatic 147, 3) := by decide +kernel
theorem dX8_tear_4 : decode cX8_tear 4 = .ok (.ifCond .eq 5, 3) := by decide +kernel
theorem dX8_tear_7 : decode cX8_tear 7 = .ok (.iconst (-1), 1) := by decide +kernel
theorem dX8_tear_8 : decode cX8_tear 8 = .ok (.ireturn, 1) := by decide +kernel
theorem dX8_tear_9 : decode cX8_tear 9 = .ok (.aload_n 0, 1) := by decide +kernel
theorem dX8_tear_10 : decode cX8_tear 10 = .ok (.getfield 11, 3) := by decide +kernel
theorem dX8_tear_13 : decode cX8_tear 13 = .ok (.iload_n 1, 1) := by decide +kernel
theorem dX8_tear_14 : decode cX8_tear 14 = .ok (.aaload, 1) := by decide +kernel
theorem dX8_tear_15 : decode cX8_tear 15 = .ok (.invokevirtual 157, 3) := by decide +kernel
theorem dX8_tear_18 : decode cX8_tear 18 = .ok (.ifCond .eq 9, 3) := by decide +kernel
theorem dX8_tear_21 : decode cX8_tear 21 = .ok (.aload_n 0, 1) := by decide +kernel
theorem dX8_tear_22 : decode cX8_tear 22 = .ok (.iconst 1, 1) := by decide +kernel
theorem dX8_tear_23 : decode cX8_tear 23 = .ok (.invokevirtual 150, 3) := by decide +kernel
theorem dX8_tear_26 : decode cX8_tear 26 = .ok (.ireturn, 1) := by decide +kernel
theorem dX8_tear_27 : decode cX8_tear 27 = .ok (.aload_n 0, 1) := by decide +kernel
theorem dX8_tear_28 : decode cX8_tear 28 = .ok (.getfield 11, 3) := by decide +kernel
theorem dX8_tear_31 : decode cX8_tear 31 = .ok (.iload_n 1, 1) := by decide +kernel
theorem dX8_tear_32 : decode cX8_tear 32 = .ok (.aaload, 1) := by decide +kernel
theorem dX8_tear_33 : decode cX8_tear 33 = .ok (.iconst (-1), 1) := by decide +kernel
theorem dX8_tear_34 : decode cX8_tear 34 = .ok (.putfield 170, 3) := by decide +kernel
theorem dX8_tear_37 : decode cX8_tear 37 = .ok (.iconst 1, 1) := by decide +kernel
theorem dX8_tear_38 : decode cX8_tear 38 = .ok (.ireturn, 1) := by decide +kernel
theorem dX8_copy_0 : decode cX8_copy 0 = .ok (.iload_n 1, 1) := by decide +kernel
theorem dX8_copy_1 : decode cX8_copy 1 = .ok (.invokestatic 147, 3) := by decide +kernel
theorem dX8_copy_4 : decode cX8_copy 4 = .ok (.ifCond .ne 10, 3) := by decide +kernel
theorem dX8_copy_7 : decode cX8_copy 7 = .ok (.iload_n 3, 1) := by decide +kernel
theorem dX8_copy_8 : decode cX8_copy 8 = .ok (.invokestatic 147, 3) := by decide +kernel
theorem dX8_copy_11 : decode cX8_copy 11 = .ok (.ifCond .eq 5, 3) := by decide +kernel
theorem dX8_copy_14 : decode cX8_copy 14 = .ok (.iconst (-1), 1) := by decide +kernel
theorem dX8_copy_15 : decode cX8_copy 15 = .ok (.ireturn, 1) := by decide +kernel
theorem dX8_copy_16 : decode cX8_copy 16 = .ok (.iload 5, 2) := by decide +kernel
theorem dX8_copy_18 : decode cX8_copy 18 = .ok (.ifCond .ge 9, 3) := by decide +kernel
theorem dX8_copy_21 : decode cX8_copy 21 = .ok (.aload_n 0, 1) := by decide +kernel
theorem dX8_copy_22 : decode cX8_copy 22 = .ok (.iconst 5, 1) := by decide +kernel
theorem dX8_copy_23 : decode cX8_copy 23 = .ok (.invokevirtual 150, 3) := by decide +kernel
theorem dX8_copy_26 : decode cX8_copy 26 = .ok (.ireturn, 1) := by decide +kernel
theorem dX8_copy_27 : decode cX8_copy 27 = .ok (.aload_n 0, 1) := by decide +kernel
theorem dX8_copy_28 : decode cX8_copy 28 = .ok (.getfield 11, 3) := by decide +kernel
theorem dX8_copy_31 : decode cX8_copy 31 = .ok (.iload_n 1, 1) := by decide +kernel
theorem dX8_copy_32 : decode cX8_copy 32 = .ok (.aaload, 1) := by decide +kernel
theorem dX8_copy_33 : decode cX8_copy 33 = .ok (.invokevirtual 157, 3) := by decide +kernel
theorem dX8_copy_36 : decode cX8_copy 36 = .ok (.ifCond .ne 15, 3) := by decide +kernel
theorem dX8_copy_39 : decode cX8_copy 39 = .ok (.aload_n 0, 1) := by decide +kernel
theorem dX8_copy_40 : decode cX8_copy 40 = .ok (.getfield 11, 3) := by decide +kernel
theorem dX8_copy_43 : decode cX8_copy 43 = .ok (.iload_n 3, 1) := by decide +kernel
theorem dX8_copy_44 : decode cX8_copy 44 = .ok (.aaload, 1) := by decide +kernel
theorem dX8_copy_45 : decode cX8_copy 45 = .ok (.invokevirtual 157, 3) := by decide +kernel
theorem dX8_copy_48 : decode cX8_copy 48 = .ok (.ifCond .eq 9, 3) := by decide +kernel
theorem dX8_copy_51 : decode cX8_copy 51 = .ok (.aload_n 0, 1) := by decide +kernel
theorem dX8_copy_52 : decode cX8_copy 52 = .ok (.iconst 1, 1) := by decide +kernel
theorem dX8_copy_53 : decode cX8_copy 53 = .ok (.invokevirtual 150, 3) := by decide +kernel
theorem dX8_copy_56 : decode cX8_copy 56 = .ok (.ireturn, 1) := by decide +kernel
theorem dX8_copy_57 : decode cX8_copy 57 = .ok (.aload_n 0, 1) := by decide +kernel
theorem dX8_copy_58 : decode cX8_copy 58 = .ok (.getfield 11, 3) := by decide +kernel
theorem dX8_copy_61 : decode cX8_copy 61 = .ok (.iload_n 1, 1) := by decide +kernel
theorem dX8_copy_62 : decode cX8_copy 62 = .ok (.aaload, 1) := by decide +kernel
theorem dX8_copy_63 : decode cX8_copy 63 = .ok (.iload_n 2, 1) := by decide +kernel
theorem dX8_copy_64 : decode cX8_copy 64 = .ok (.iload 5, 2) := by decide +kernel
theorem dX8_copy_66 : decode cX8_copy 66 = .ok (.invokevirtual 173, 3) := by decide +kernel
theorem dX8_copy_69 : decode cX8_copy 69 = .ok (.ifCond .eq 19, 3) := by decide +kernel
theorem dX8_copy_72 : decode cX8_copy 72 = .ok (.aload_n 0, 1) := by decide +kernel
theorem dX8_copy_73 : decode cX8_copy 73 = .ok (.getfield 11, 3) := by decide +kernel
theorem dX8_copy_76 : decode cX8_copy 76 = .ok (.iload_n 3, 1) := by decide +kernel
theorem dX8_copy_77 : decode cX8_copy 77 = .ok (.aaload, 1) := by decide +kernel
theorem dX8_copy_78 : decode cX8_copy 78 = .ok (.iload 4, 2) := by decide +kernel
theorem dX8_copy_80 : decode cX8_copy 80 = .ok (.iload 5, 2) := by decide +kernel
theorem dX8_copy_82 : decode cX8_copy 82 = .ok (.invokevirtual 173, 3) := by decide +kernel
theorem dX8_copy_85 : decode cX8_copy 85 = .ok (.ifCond .ne 9, 3) := by decide +kernel
theorem dX8_copy_88 : decode cX8_copy 88 = .ok (.aload_n 0, 1) := by decide +kernel
theorem dX8_copy_89 : decode cX8_copy 89 = .ok (.iconst 2, 1) := by decide +kernel
theorem dX8_copy_90 : decode cX8_copy 90 = .ok (.invokevirtual 150, 3) := by decide +kernel
theorem dX8_copy_93 : decode cX8_copy 93 = .ok (.ireturn, 1) := by decide +kernel
theorem dX8_copy_94 : decode cX8_copy 94 = .ok (.aload_n 0, 1) := by decide +kernel
theorem dX8_copy_95 : decode cX8_copy 95 = .ok (.getfield 11, 3) := by decide +kernel
theorem dX8_copy_98 : decode cX8_copy 98 = .ok (.iload_n 1, 1) := by decide +kernel
theorem dX8_copy_99 : decode cX8_copy 99 = .ok (.aaload, 1) := by decide +kernel
theorem dX8_copy_100 : decode cX8_copy 100 = .ok (.getfield 164, 3) := by decide +kernel
theorem dX8_copy_103 : decode cX8_copy 103 = .ok (.iload_n 2, 1) := by decide +kernel
theorem dX8_copy_104 : decode cX8_copy 104 = .ok (.aload_n 0, 1) := by decide +kernel
theorem dX8_copy_105 : decode cX8_copy 105 = .ok (.getfield 11, 3) := by decide +kernel
theorem dX8_copy_108 : decode cX8_copy 108 = .ok (.iload_n 3, 1) := by decide +kernel
theorem dX8_copy_109 : decode cX8_copy 109 = .ok (.aaload, 1) := by decide +kernel
theorem dX8_copy_110 : decode cX8_copy 110 = .ok (.getfield 164, 3) := by decide +kernel
theorem dX8_copy_113 : decode cX8_copy 113 = .ok (.iload 4, 2) := by decide +kernel
theorem dX8_copy_115 : decode cX8_copy 115 = .ok (.iload 5, 2) := by decide +kernel
theorem dX8_copy_117 : decode cX8_copy 117 = .ok (.invokestatic 177, 3) := by decide +kernel
theorem dX8_copy_120 : decode cX8_copy 120 = .ok (.iconst 1, 1) := by decide +kernel
theorem dX8_copy_121 : decode cX8_copy 121 = .ok (.ireturn, 1) := by decide +kernel
theorem dX8_mean_0 : decode cX8_mean 0 = .ok (.iload_n 1, 1) := by decide +kernel
theorem dX8_mean_1 : decode cX8_mean 1 = .ok (.invokestatic 147, 3) := by decide +kernel
theorem dX8_mean_4 : decode cX8_mean 4 = .ok (.ifCond .eq 5, 3) := by decide +kernel
theorem dX8_mean_7 : decode cX8_mean 7 = .ok (.iconst (-1), 1) := by decide +kernel
theorem dX8_mean_8 : decode cX8_mean 8 = .ok (.ireturn, 1) := by decide +kernel
theorem dX8_mean_9 : decode cX8_mean 9 = .ok (.aload_n 0, 1) := by decide +kernel
theorem dX8_mean_10 : decode cX8_mean 10 = .ok (.getfield 11, 3) := by decide +kernel
theorem dX8_mean_13 : decode cX8_mean 13 = .ok (.iload_n 1, 1) := by decide +kernel
theorem dX8_mean_14 : decode cX8_mean 14 = .ok (.aaload, 1) := by decide +kernel
theorem dX8_mean_15 : decode cX8_mean 15 = .ok (.astore_n 2, 1) := by decide +kernel
theorem dX8_mean_16 : decode cX8_mean 16 = .ok (.aload_n 2, 1) := by decide +kernel
theorem dX8_mean_17 : decode cX8_mean 17 = .ok (.invokevirtual 157, 3) := by decide +kernel
theorem dX8_mean_20 : decode cX8_mean 20 = .ok (.ifCond .eq 9, 3) := by decide +kernel
theorem dX8_mean_23 : decode cX8_mean 23 = .ok (.aload_n 0, 1) := by decide +kernel
theorem dX8_mean_24 : decode cX8_mean 24 = .ok (.iconst 1, 1) := by decide +kernel
theorem dX8_mean_25 : decode cX8_mean 25 = .ok (.invokevirtual 150, 3) := by decide +kernel
theorem dX8_mean_28 : decode cX8_mean 28 = .ok (.ireturn, 1) := by decide +kernel
theorem dX8_mean_29 : decode cX8_mean 29 = .ok (.aload_n 2, 1) := by decide +kernel
theorem dX8_mean_30 : decode cX8_mean 30 = .ok (.getfield 170, 3) := by decide +kernel
theorem dX8_mean_33 : decode cX8_mean 33 = .ok (.ifCond .ne 9, 3) := by decide +kernel
theorem dX8_mean_36 : decode cX8_mean 36 = .ok (.aload_n 0, 1) := by decide +kernel
theorem dX8_mean_37 : decode cX8_mean 37 = .ok (.iconst 4, 1) := by decide +kernel
theorem dX8_mean_38 : decode cX8_mean 38 = .ok (.invokevirtual 150, 3) := by decide +kernel
theorem dX8_mean_41 : decode cX8_mean 41 = .ok (.ireturn, 1) := by decide +kernel
theorem dX8_mean_42 : decode cX8_mean 42 = .ok (.aload_n 0, 1) := by decide +kernel
theorem dX8_mean_43 : decode cX8_mean 43 = .ok (.aload_n 2, 1) := by decide +kernel
theorem dX8_mean_44 : decode cX8_mean 44 = .ok (.invokevirtual 183, 3) := by decide +kernel
theorem dX8_mean_47 : decode cX8_mean 47 = .ok (.aload_n 2, 1) := by decide +kernel
theorem dX8_mean_48 : decode cX8_mean 48 = .ok (.getfield 170, 3) := by decide +kernel
theorem dX8_mean_51 : decode cX8_mean 51 = .ok (.i2l, 1) := by decide +kernel
theorem dX8_mean_52 : decode cX8_mean 52 = .ok (.ldiv, 1) := by decide +kernel
theorem dX8_mean_53 : decode cX8_mean 53 = .ok (.l2i, 1) := by decide +kernel
theorem dX8_mean_54 : decode cX8_mean 54 = .ok (.invokevirtual 167, 3) := by decide +kernel
theorem dX8_mean_57 : decode cX8_mean 57 = .ok (.ireturn, 1) := by decide +kernel
theorem dX8_text_0 : decode cX8_text 0 = .ok (.iload_n 1, 1) := by decide +kernel
theorem dX8_text_1 : decode cX8_text 1 = .ok (.invokestatic 187, 3) := by decide +kernel
theorem dX8_text_4 : decode cX8_text 4 = .ok (.ifCond .ne 9, 3) := by decide +kernel
theorem dX8_text_7 : decode cX8_text 7 = .ok (.iload_n 2, 1) := by decide +kernel
theorem dX8_text_8 : decode cX8_text 8 = .ok (.bipush 80, 2) := by decide +kernel
theorem dX8_text_10 : decode cX8_text 10 = .ok (.if_icmp .le 5, 3) := by decide +kernel
theorem dX8_text_13 : decode cX8_text 13 = .ok (.iconst (-1), 1) := by decide +kernel
theorem dX8_text_14 : decode cX8_text 14 = .ok (.ireturn, 1) := by decide +kernel
theorem dX8_text_15 : decode cX8_text 15 = .ok (.iload_n 2, 1) := by decide +kernel
theorem dX8_text_16 : decode cX8_text 16 = .ok (.ifCond .ge 9, 3) := by decide +kernel
theorem dX8_text_19 : decode cX8_text 19 = .ok (.aload_n 0, 1) := by decide +kernel
theorem dX8_text_20 : decode cX8_text 20 = .ok (.iconst 5, 1) := by decide +kernel
theorem dX8_text_21 : decode cX8_text 21 = .ok (.invokevirtual 150, 3) := by decide +kernel
theorem dX8_text_24 : decode cX8_text 24 = .ok (.ireturn, 1) := by decide +kernel
theorem dX8_text_25 : decode cX8_text 25 = .ok (.aload_n 0, 1) := by decide +kernel
theorem dX8_text_26 : decode cX8_text 26 = .ok (.getfield 17, 3) := by decide +kernel
theorem dX8_text_29 : decode cX8_text 29 = .ok (.iload_n 1, 1) := by decide +kernel
theorem dX8_text_30 : decode cX8_text 30 = .ok (.aaload, 1) := by decide +kernel
theorem dX8_text_31 : decode cX8_text 31 = .ok (.iload_n 2, 1) := by decide +kernel
theorem dX8_text_32 : decode cX8_text 32 = .ok (.invokevirtual 190, 3) := by decide +kernel
theorem dX8_text_35 : decode cX8_text 35 = .ok (.iload_n 2, 1) := by decide +kernel
theorem dX8_text_36 : decode cX8_text 36 = .ok (.ireturn, 1) := by decide +kernel
theorem dX8_put_0 : decode cX8_put 0 = .ok (.iload_n 1, 1) := by decide +kernel
theorem dX8_put_1 : decode cX8_put 1 = .ok (.invokestatic 187, 3) := by decide +kernel
theorem dX8_put_4 : decode cX8_put 4 = .ok (.ifCond .eq 5, 3) := by decide +kernel
theorem dX8_put_7 : decode cX8_put 7 = .ok (.iconst (-1), 1) := by decide +kernel
theorem dX8_put_8 : decode cX8_put 8 = .ok (.ireturn, 1) := by decide +kernel
theorem dX8_put_9 : decode cX8_put 9 = .ok (.aload_n 0, 1) := by decide +kernel
theorem dX8_put_10 : decode cX8_put 10 = .ok (.getfield 17, 3) := by decide +kernel
theorem dX8_put_13 : decode cX8_put 13 = .ok (.iload_n 1, 1) := by decide +kernel
theorem dX8_put_14 : decode cX8_put 14 = .ok (.aaload, 1) := by decide +kernel
theorem dX8_put_15 : decode cX8_put 15 = .ok (.astore 4, 2) := by decide +kernel
theorem dX8_put_17 : decode cX8_put 17 = .ok (.aload 4, 2) := by decide +kernel
theorem dX8_put_19 : decode cX8_put 19 = .ok (.invokevirtual 191, 3) := by decide +kernel
theorem dX8_put_22 : decode cX8_put 22 = .ok (.ifCond .eq 9, 3) := by decide +kernel
theorem dX8_put_25 : decode cX8_put 25 = .ok (.aload_n 0, 1) := by decide +kernel
theorem dX8_put_26 : decode cX8_put 26 = .ok (.iconst 1, 1) := by decide +kernel
theorem dX8_put_27 : decode cX8_put 27 = .ok (.invokevirtual 150, 3) := by decide +kernel
theorem dX8_put_30 : decode cX8_put 30 = .ok (.ireturn, 1) := by decide +kernel
theorem dX8_put_31 : decode cX8_put 31 = .ok (.aload 4, 2) := by decide +kernel
theorem dX8_put_33 : decode cX8_put 33 = .ok (.iload_n 2, 1) := by decide +kernel
theorem dX8_put_34 : decode cX8_put 34 = .ok (.invokevirtual 192, 3) := by decide +kernel
theorem dX8_put_37 : decode cX8_put 37 = .ok (.ifCond .ne 9, 3) := by decide +kernel
theorem dX8_put_40 : decode cX8_put 40 = .ok (.aload_n 0, 1) := by decide +kernel
theorem dX8_put_41 : decode cX8_put 41 = .ok (.iconst 2, 1) := by decide +kernel
theorem dX8_put_42 : decode cX8_put 42 = .ok (.invokevirtual 150, 3) := by decide +kernel
theorem dX8_put_45 : decode cX8_put 45 = .ok (.ireturn, 1) := by decide +kernel
theorem dX8_put_46 : decode cX8_put 46 = .ok (.aload 4, 2) := by decide +kernel
theorem dX8_put_48 : decode cX8_put 48 = .ok (.getfield 193, 3) := by decide +kernel
theorem dX8_put_51 : decode cX8_put 51 = .ok (.iload_n 2, 1) := by decide +kernel
theorem dX8_put_52 : decode cX8_put 52 = .ok (.baload, 1) := by decide +kernel
theorem dX8_put_53 : decode cX8_put 53 = .ok (.istore 5, 2) := by decide +kernel
theorem dX8_put_55 : decode cX8_put 55 = .ok (.aload 4, 2) := by decide +kernel
theorem dX8_put_57 : decode cX8_put 57 = .ok (.getfield 193, 3) := by decide +kernel
theorem dX8_put_60 : decode cX8_put 60 = .ok (.iload_n 2, 1) := by decide +kernel
theorem dX8_put_61 : decode cX8_put 61 = .ok (.iload_n 3, 1) := by decide +kernel
theorem dX8_put_62 : decode cX8_put 62 = .ok (.i2b, 1) := by decide +kernel
theorem dX8_put_63 : decode cX8_put 63 = .ok (.bastore, 1) := by decide +kernel
theorem dX8_put_64 : decode cX8_put 64 = .ok (.iload 5, 2) := by decide +kernel
theorem dX8_put_66 : decode cX8_put 66 = .ok (.sipush 1000, 3) := by decide +kernel
theorem dX8_put_69 : decode cX8_put 69 = .ok (.iadd, 1) := by decide +kernel
theorem dX8_put_70 : decode cX8_put 70 = .ok (.ireturn, 1) := by decide +kernel
theorem dX8_fault_0 : decode cX8_fault 0 = .ok (.iload_n 1, 1) := by decide +kernel
theorem dX8_fault_1 : decode cX8_fault 1 = .ok (.invokestatic 187, 3) := by decide +kernel
theorem dX8_fault_4 : decode cX8_fault 4 = .ok (.ifCond .eq 5, 3) := by decide +kernel
theorem dX8_fault_7 : decode cX8_fault 7 = .ok (.iconst (-1), 1) := by decide +kernel
theorem dX8_fault_8 : decode cX8_fault 8 = .ok (.ireturn, 1) := by decide +kernel
theorem dX8_fault_9 : decode cX8_fault 9 = .ok (.aload_n 0, 1) := by decide +kernel
theorem dX8_fault_10 : decode cX8_fault 10 = .ok (.getfield 17, 3) := by decide +kernel
theorem dX8_fault_13 : decode cX8_fault 13 = .ok (.iload_n 1, 1) := by decide +kernel
theorem dX8_fault_14 : decode cX8_fault 14 = .ok (.aaload, 1) := by decide +kernel
theorem dX8_fault_15 : decode cX8_fault 15 = .ok (.invokevirtual 191, 3) := by decide +kernel
theorem dX8_fault_18 : decode cX8_fault 18 = .ok (.ifCond .eq 9, 3) := by decide +kernel
theorem dX8_fault_21 : decode cX8_fault 21 = .ok (.aload_n 0, 1) := by decide +kernel
theorem dX8_fault_22 : decode cX8_fault 22 = .ok (.iconst 1, 1) := by decide +kernel
theorem dX8_fault_23 : decode cX8_fault 23 = .ok (.invokevirtual 150, 3) := by decide +kernel
theorem dX8_fault_26 : decode cX8_fault 26 = .ok (.ireturn, 1) := by decide +kernel
theorem dX8_fault_27 : decode cX8_fault 27 = .ok (.iload_n 2, 1) := by decide +kernel
theorem dX8_fault_28 : decode cX8_fault 28 = .ok (.ifCond .eq 19, 3) := by decide +kernel
theorem dX8_fault_31 : decode cX8_fault 31 = .ok (.aload_n 0, 1) := by decide +kernel
theorem dX8_fault_32 : decode cX8_fault 32 = .ok (.getfield 47, 3) := by decide +kernel
theorem dX8_fault_35 : decode cX8_fault 35 = .ok (.aload_n 0, 1) := by decide +kernel
theorem dX8_fault_36 : decode cX8_fault 36 = .ok (.getfield 17, 3) := by decide +kernel
theorem dX8_fault_39 : decode cX8_fault 39 = .ok (.iload_n 1, 1) := by decide +kernel
theorem dX8_fault_40 : decode cX8_fault 40 = .ok (.aaload, 1) := by decide +kernel
theorem dX8_fault_41 : decode cX8_fault 41 = .ok (.invokevirtual 197, 3) := by decide +kernel
theorem dX8_fault_44 : decode cX8_fault 44 = .ok (.goto 16, 3) := by decide +kernel
theorem dX8_fault_47 : decode cX8_fault 47 = .ok (.aload_n 0, 1) := by decide +kernel
theorem dX8_fault_48 : decode cX8_fault 48 = .ok (.getfield 47, 3) := by decide +kernel
theorem dX8_fault_51 : decode cX8_fault 51 = .ok (.aload_n 0, 1) := by decide +kernel
theorem dX8_fault_52 : decode cX8_fault 52 = .ok (.getfield 17, 3) := by decide +kernel
theorem dX8_fault_55 : decode cX8_fault 55 = .ok (.iload_n 1, 1) := by decide +kernel
theorem dX8_fault_56 : decode cX8_fault 56 = .ok (.aaload, 1) := by decide +kernel
theorem dX8_fault_57 : decode cX8_fault 57 = .ok (.invokevirtual 201, 3) := by decide +kernel
theorem dX8_fault_60 : decode cX8_fault 60 = .ok (.ireturn, 1) := by decide +kernel
theorem dX8_walker_0 : decode cX8_walker 0 = .ok (.iload_n 1, 1) := by decide +kernel
theorem dX8_walker_1 : decode cX8_walker 1 = .ok (.invokestatic 94, 3) := by decide +kernel
theorem dX8_walker_4 : decode cX8_walker 4 = .ok (.ifCond .ne 10, 3) := by decide +kernel
theorem dX8_walker_7 : decode cX8_walker 7 = .ok (.iload_n 2, 1) := by decide +kernel
theorem dX8_walker_8 : decode cX8_walker 8 = .ok (.invokestatic 187, 3) := by decide +kernel
theorem dX8_walker_11 : decode cX8_walker 11 = .ok (.ifCond .eq 5, 3) := by decide +kernel
theorem dX8_walker_14 : decode cX8_walker 14 = .ok (.iconst (-1), 1) := by decide +kernel
theorem dX8_walker_15 : decode cX8_walker 15 = .ok (.ireturn, 1) := by decide +kernel
theorem dX8_walker_16 : decode cX8_walker 16 = .ok (.aload_n 0, 1) := by decide +kernel
theorem dX8_walker_17 : decode cX8_walker 17 = .ok (.getfield 17, 3) := by decide +kernel
theorem dX8_walker_20 : decode cX8_walker 20 = .ok (.iload_n 2, 1) := by decide +kernel
theorem dX8_walker_21 : decode cX8_walker 21 = .ok (.aaload, 1) := by decide +kernel
theorem dX8_walker_22 : decode cX8_walker 22 = .ok (.invokevirtual 191, 3) := by decide +kernel
theorem dX8_walker_25 : decode cX8_walker 25 = .ok (.ifCond .eq 9, 3) := by decide +kernel
theorem dX8_walker_28 : decode cX8_walker 28 = .ok (.aload_n 0, 1) := by decide +kernel
theorem dX8_walker_29 : decode cX8_walker 29 = .ok (.iconst 1, 1) := by decide +kernel
theorem dX8_walker_30 : decode cX8_walker 30 = .ok (.invokevirtual 150, 3) := by decide +kernel
theorem dX8_walker_33 : decode cX8_walker 33 = .ok (.ireturn, 1) := by decide +kernel
theorem dX8_walker_34 : decode cX8_walker 34 = .ok (.aload_n 0, 1) := by decide +kernel
theorem dX8_walker_35 : decode cX8_walker 35 = .ok (.getfield 47, 3) := by decide +kernel
theorem dX8_walker_38 : decode cX8_walker 38 = .ok (.aload_n 0, 1) := by decide +kernel
theorem dX8_walker_39 : decode cX8_walker 39 = .ok (.getfield 17, 3) := by decide +kernel
theorem dX8_walker_42 : decode cX8_walker 42 = .ok (.iload_n 2, 1) := by decide +kernel
theorem dX8_walker_43 : decode cX8_walker 43 = .ok (.aaload, 1) := by decide +kernel
theorem dX8_walker_44 : decode cX8_walker 44 = .ok (.invokevirtual 201, 3) := by decide +kernel
theorem dX8_walker_47 : decode cX8_walker 47 = .ok (.bipush (-9), 2) := by decide +kernel
theorem dX8_walker_49 : decode cX8_walker 49 = .ok (.if_icmp .eq 6, 3) := by decide +kernel
theorem dX8_walker_52 : decode cX8_walker 52 = .ok (.bipush (-4), 2) := by decide +kernel
theorem dX8_walker_54 : decode cX8_walker 54 = .ok (.ireturn, 1) := by decide +kernel
theorem dX8_walker_55 : decode cX8_walker 55 = .ok (.aload_n 0, 1) := by decide +kernel
theorem dX8_walker_56 : decode cX8_walker 56 = .ok (.getfield 23, 3) := by decide +kernel
theorem dX8_walker_59 : decode cX8_walker 59 = .ok (.iload_n 1, 1) := by decide +kernel
theorem dX8_walker_60 : decode cX8_walker 60 = .ok (.aaload, 1) := by decide +kernel
theorem dX8_walker_61 : decode cX8_walker 61 = .ok (.aload_n 0, 1) := by decide +kernel
theorem dX8_walker_62 : decode cX8_walker 62 = .ok (.getfield 47, 3) := by decide +kernel
theorem dX8_walker_65 : decode cX8_walker 65 = .ok (.getfield 204, 3) := by decide +kernel
theorem dX8_walker_68 : decode cX8_walker 68 = .ok (.invokevirtual 120, 3) := by decide +kernel
theorem dX8_walker_71 : decode cX8_walker 71 = .ok (.aload_n 0, 1) := by decide +kernel
theorem dX8_walker_72 : decode cX8_walker 72 = .ok (.getfield 23, 3) := by decide +kernel
theorem dX8_walker_75 : decode cX8_walker 75 = .ok (.iload_n 1, 1) := by decide +kernel
theorem dX8_walker_76 : decode cX8_walker 76 = .ok (.aaload, 1) := by decide +kernel
theorem dX8_walker_77 : decode cX8_walker 77 = .ok (.iconst 1, 1) := by decide +kernel
theorem dX8_walker_78 : decode cX8_walker 78 = .ok (.putfield 110, 3) := by decide +kernel
theorem dX8_walker_81 : decode cX8_walker 81 = .ok (.aload_n 0, 1) := by decide +kernel
theorem dX8_walker_82 : decode cX8_walker 82 = .ok (.getfield 23, 3) := by decide +kernel
theorem dX8_walker_85 : decode cX8_walker 85 = .ok (.iload_n 1, 1) := by decide +kernel
theorem dX8_walker_86 : decode cX8_walker 86 = .ok (.aaload, 1) := by decide +kernel
theorem dX8_walker_87 : decode cX8_walker 87 = .ok (.getfield 205, 3) := by decide +kernel
theorem dX8_walker_90 : decode cX8_walker 90 = .ok (.invokestatic 208, 3) := by decide +kernel
theorem dX8_walker_93 : decode cX8_walker 93 = .ok (.ireturn, 1) := by decide +kernel
theorem dX8_board_0 : decode cX8_board 0 = .ok (.iload_n 1, 1) := by decide +kernel
theorem dX8_board_1 : decode cX8_board 1 = .ok (.invokestatic 98, 3) := by decide +kernel
theorem dX8_board_4 : decode cX8_board 4 = .ok (.ifCond .ne 10, 3) := by decide +kernel
theorem dX8_board_7 : decode cX8_board 7 = .ok (.iload_n 2, 1) := by decide +kernel
theorem dX8_board_8 : decode cX8_board 8 = .ok (.invokestatic 187, 3) := by decide +kernel
theorem dX8_board_11 : decode cX8_board 11 = .ok (.ifCond .eq 5, 3) := by decide +kernel
theorem dX8_board_14 : decode cX8_board 14 = .ok (.iconst (-1), 1) := by decide +kernel
theorem dX8_board_15 : decode cX8_board 15 = .ok (.ireturn, 1) := by decide +kernel
theorem dX8_board_16 : decode cX8_board 16 = .ok (.aload_n 0, 1) := by decide +kernel
theorem dX8_board_17 : decode cX8_board 17 = .ok (.getfield 17, 3) := by decide +kernel
theorem dX8_board_20 : decode cX8_board 20 = .ok (.iload_n 2, 1) := by decide +kernel
theorem dX8_board_21 : decode cX8_board 21 = .ok (.aaload, 1) := by decide +kernel
theorem dX8_board_22 : decode cX8_board 22 = .ok (.invokevirtual 191, 3) := by decide +kernel
theorem dX8_board_25 : decode cX8_board 25 = .ok (.ifCond .eq 9, 3) := by decide +kernel
theorem dX8_board_28 : decode cX8_board 28 = .ok (.aload_n 0, 1) := by decide +kernel
theorem dX8_board_29 : decode cX8_board 29 = .ok (.iconst 1, 1) := by decide +kernel
theorem dX8_board_30 : decode cX8_board 30 = .ok (.invokevirtual 150, 3) := by decide +kernel
theorem dX8_board_33 : decode cX8_board 33 = .ok (.ireturn, 1) := by decide +kernel
theorem dX8_board_34 : decode cX8_board 34 = .ok (.aload_n 0, 1) := by decide +kernel
theorem dX8_board_35 : decode cX8_board 35 = .ok (.getfield 47, 3) := by decide +kernel
theorem dX8_board_38 : decode cX8_board 38 = .ok (.aload_n 0, 1) := by decide +kernel
theorem dX8_board_39 : decode cX8_board 39 = .ok (.getfield 17, 3) := by decide +kernel
theorem dX8_board_42 : decode cX8_board 42 = .ok (.iload_n 2, 1) := by decide +kernel
theorem dX8_board_43 : decode cX8_board 43 = .ok (.aaload, 1) := by decide +kernel
theorem dX8_board_44 : decode cX8_board 44 = .ok (.invokevirtual 197, 3) := by decide +kernel
theorem dX8_board_47 : decode cX8_board 47 = .ok (.bipush (-9), 2) := by decide +kernel
theorem dX8_board_49 : decode cX8_board 49 = .ok (.if_icmp .eq 6, 3) := by decide +kernel
theorem dX8_board_52 : decode cX8_board 52 = .ok (.bipush (-4), 2) := by decide +kernel
theorem dX8_board_54 : decode cX8_board 54 = .ok (.ireturn, 1) := by decide +kernel
theorem dX8_board_55 : decode cX8_board 55 = .ok (.aload_n 0, 1) := by decide +kernel
theorem dX8_board_56 : decode cX8_board 56 = .ok (.getfield 29, 3) := by decide +kernel
theorem dX8_board_59 : decode cX8_board 59 = .ok (.iload_n 1, 1) := by decide +kernel
theorem dX8_board_60 : decode cX8_board 60 = .ok (.aaload, 1) := by decide +kernel
theorem dX8_board_61 : decode cX8_board 61 = .ok (.aload_n 0, 1) := by decide +kernel
theorem dX8_board_62 : decode cX8_board 62 = .ok (.getfield 47, 3) := by decide +kernel
theorem dX8_board_65 : decode cX8_board 65 = .ok (.getfield 213, 3) := by decide +kernel
theorem dX8_board_68 : decode cX8_board 68 = .ok (.invokevirtual 214, 3) := by decide +kernel
theorem dX8_board_71 : decode cX8_board 71 = .ok (.aload_n 0, 1) := by decide +kernel
theorem dX8_board_72 : decode cX8_board 72 = .ok (.getfield 29, 3) := by decide +kernel
theorem dX8_board_75 : decode cX8_board 75 = .ok (.iload_n 1, 1) := by decide +kernel
theorem dX8_board_76 : decode cX8_board 76 = .ok (.aaload, 1) := by decide +kernel
theorem dX8_board_77 : decode cX8_board 77 = .ok (.iconst 1, 1) := by decide +kernel
theorem dX8_board_78 : decode cX8_board 78 = .ok (.putfield 114, 3) := by decide +kernel
theorem dX8_board_81 : decode cX8_board 81 = .ok (.aload_n 0, 1) := by decide +kernel
theorem dX8_board_82 : decode cX8_board 82 = .ok (.getfield 47, 3) := by decide +kernel
theorem dX8_board_85 : decode cX8_board 85 = .ok (.getfield 217, 3) := by decide +kernel
theorem dX8_board_88 : decode cX8_board 88 = .ok (.ireturn, 1) := by decide +kernel
theorem dX8_about_0 : decode cX8_about 0 = .ok (.iload_n 1, 1) := by decide +kernel
theorem dX8_about_1 : decode cX8_about 1 = .ok (.invokestatic 94, 3) := by decide +kernel
theorem dX8_about_4 : decode cX8_about 4 = .ok (.ifCond .ne 13, 3) := by decide +kernel
theorem dX8_about_7 : decode cX8_about 7 = .ok (.iload_n 2, 1) := by decide +kernel
theorem dX8_about_8 : decode cX8_about 8 = .ok (.iconst 0, 1) := by decide +kernel
theorem dX8_about_9 : decode cX8_about 9 = .ok (.bipush 6, 2) := by decide +kernel
theorem dX8_about_11 : decode cX8_about 11 = .ok (.invokestatic 90, 3) := by decide +kernel
theorem dX8_about_14 : decode cX8_about 14 = .ok (.ifCond .eq 5, 3) := by decide +kernel
theorem dX8_about_17 : decode cX8_about 17 = .ok (.iconst (-1), 1) := by decide +kernel
theorem dX8_about_18 : decode cX8_about 18 = .ok (.ireturn, 1) := by decide +kernel
theorem dX8_about_19 : decode cX8_about 19 = .ok (.aload_n 0, 1) := by decide +kernel
theorem dX8_about_20 : decode cX8_about 20 = .ok (.getfield 23, 3) := by decide +kernel
theorem dX8_about_23 : decode cX8_about 23 = .ok (.iload_n 1, 1) := by decide +kernel
theorem dX8_about_24 : decode cX8_about 24 = .ok (.aaload, 1) := by decide +kernel
theorem dX8_about_25 : decode cX8_about 25 = .ok (.getfield 110, 3) := by decide +kernel
theorem dX8_about_28 : decode cX8_about 28 = .ok (.ifCond .ne 9, 3) := by decide +kernel
theorem dX8_about_31 : decode cX8_about 31 = .ok (.aload_n 0, 1) := by decide +kernel
theorem dX8_about_32 : decode cX8_about 32 = .ok (.iconst 1, 1) := by decide +kernel
theorem dX8_about_33 : decode cX8_about 33 = .ok (.invokevirtual 150, 3) := by decide +kernel
theorem dX8_about_36 : decode cX8_about 36 = .ok (.ireturn, 1) := by decide +kernel
theorem dX8_about_37 : decode cX8_about 37 = .ok (.aload_n 0, 1) := by decide +kernel
theorem dX8_about_38 : decode cX8_about 38 = .ok (.aload_n 0, 1) := by decide +kernel
theorem dX8_about_39 : decode cX8_about 39 = .ok (.getfield 23, 3) := by decide +kernel
theorem dX8_about_42 : decode cX8_about 42 = .ok (.iload_n 1, 1) := by decide +kernel
theorem dX8_about_43 : decode cX8_about 43 = .ok (.aaload, 1) := by decide +kernel
theorem dX8_about_44 : decode cX8_about 44 = .ok (.iload_n 2, 1) := by decide +kernel
theorem dX8_about_45 : decode cX8_about 45 = .ok (.invokevirtual 220, 3) := by decide +kernel
theorem dX8_about_48 : decode cX8_about 48 = .ok (.invokevirtual 167, 3) := by decide +kernel
theorem dX8_about_51 : decode cX8_about 51 = .ok (.ireturn, 1) := by decide +kernel
theorem dX8_rub_0 : decode cX8_rub 0 = .ok (.iload_n 1, 1) := by decide +kernel
theorem dX8_rub_1 : decode cX8_rub 1 = .ok (.invokestatic 98, 3) := by decide +kernel
theorem dX8_rub_4 : decode cX8_rub 4 = .ok (.ifCond .ne 13, 3) := by decide +kernel
theorem dX8_rub_7 : decode cX8_rub 7 = .ok (.iload_n 2, 1) := by decide +kernel
theorem dX8_rub_8 : decode cX8_rub 8 = .ok (.iconst 0, 1) := by decide +kernel
theorem dX8_rub_9 : decode cX8_rub 9 = .ok (.bipush 99, 2) := by decide +kernel
theorem dX8_rub_11 : decode cX8_rub 11 = .ok (.invokestatic 90, 3) := by decide +kernel
theorem dX8_rub_14 : decode cX8_rub 14 = .ok (.ifCond .eq 5, 3) := by decide +kernel
theorem dX8_rub_17 : decode cX8_rub 17 = .ok (.iconst (-1), 1) := by decide +kernel
theorem dX8_rub_18 : decode cX8_rub 18 = .ok (.ireturn, 1) := by decide +kernel
theorem dX8_rub_19 : decode cX8_rub 19 = .ok (.aload_n 0, 1) := by decide +kernel
theorem dX8_rub_20 : decode cX8_rub 20 = .ok (.getfield 29, 3) := by decide +kernel
theorem dX8_rub_23 : decode cX8_rub 23 = .ok (.iload_n 1, 1) := by decide +kernel
theorem dX8_rub_24 : decode cX8_rub 24 = .ok (.aaload, 1) := by decide +kernel
theorem dX8_rub_25 : decode cX8_rub 25 = .ok (.getfield 114, 3) := by decide +kernel
theorem dX8_rub_28 : decode cX8_rub 28 = .ok (.ifCond .ne 9, 3) := by decide +kernel
theorem dX8_rub_31 : decode cX8_rub 31 = .ok (.aload_n 0, 1) := by decide +kernel
theorem dX8_rub_32 : decode cX8_rub 32 = .ok (.iconst 1, 1) := by decide +kernel
theorem dX8_rub_33 : decode cX8_rub 33 = .ok (.invokevirtual 150, 3) := by decide +kernel
theorem dX8_rub_36 : decode cX8_rub 36 = .ok (.ireturn, 1) := by decide +kernel
theorem dX8_rub_37 : decode cX8_rub 37 = .ok (.aload_n 0, 1) := by decide +kernel
theorem dX8_rub_38 : decode cX8_rub 38 = .ok (.aload_n 0, 1) := by decide +kernel
theorem dX8_rub_39 : decode cX8_rub 39 = .ok (.getfield 29, 3) := by decide +kernel
theorem dX8_rub_42 : decode cX8_rub 42 = .ok (.iload_n 1, 1) := by decide +kernel
theorem dX8_rub_43 : decode cX8_rub 43 = .ok (.aaload, 1) := by decide +kernel
theorem dX8_rub_44 : decode cX8_rub 44 = .ok (.iload_n 2, 1) := by decide +kernel
theorem dX8_rub_45 : decode cX8_rub 45 = .ok (.invokevirtual 223, 3) := by decide +kernel
theorem dX8_rub_48 : decode cX8_rub 48 = .ok (.invokevirtual 167, 3) := by decide +kernel
theorem dX8_rub_51 : decode cX8_rub 51 = .ok (.pop, 1) := by decide +kernel
theorem dX8_rub_52 : decode cX8_rub 52 = .ok (.aload_n 0, 1) := by decide +kernel
theorem dX8_rub_53 : decode cX8_rub 53 = .ok (.getfield 29, 3) := by decide +kernel
theorem dX8_rub_56 : decode cX8_rub 56 = .ok (.iload_n 1, 1) := by decide +kernel
theorem dX8_rub_57 : decode cX8_rub 57 = .ok (.aaload, 1) := by decide +kernel
theorem dX8_rub_58 : decode cX8_rub 58 = .ok (.getfield 131, 3) := by decide +kernel
theorem dX8_rub_61 : decode cX8_rub 61 = .ok (.ireturn, 1) := by decide +kernel
theorem dX8_wax_0 : decode cX8_wax 0 = .ok (.iload_n 1, 1) := by decide +kernel
theorem dX8_wax_1 : decode cX8_wax 1 = .ok (.invokestatic 94, 3) := by decide +kernel
theorem dX8_wax_4 : decode cX8_wax 4 = .ok (.ifCond .ne 22, 3) := by decide +kernel
theorem dX8_wax_7 : decode cX8_wax 7 = .ok (.iload_n 2, 1) := by decide +kernel
theorem dX8_wax_8 : decode cX8_wax 8 = .ok (.iconst 0, 1) := by decide +kernel
theorem dX8_wax_9 : decode cX8_wax 9 = .ok (.iconst 1, 1) := by decide +kernel
theorem dX8_wax_10 : decode cX8_wax 10 = .ok (.invokestatic 90, 3) := by decide +kernel
theorem dX8_wax_13 : decode cX8_wax 13 = .ok (.ifCond .ne 13, 3) := by decide +kernel
theorem dX8_wax_16 : decode cX8_wax 16 = .ok (.iload_n 3, 1) := by decide +kernel
theorem dX8_wax_17 : decode cX8_wax 17 = .ok (.iconst 0, 1) := by decide +kernel
theorem dX8_wax_18 : decode cX8_wax 18 = .ok (.bipush 9, 2) := by decide +kernel
theorem dX8_wax_20 : decode cX8_wax 20 = .ok (.invokestatic 90, 3) := by decide +kernel
theorem dX8_wax_23 : decode cX8_wax 23 = .ok (.ifCond .eq 5, 3) := by decide +kernel
theorem dX8_wax_26 : decode cX8_wax 26 = .ok (.iconst (-1), 1) := by decide +kernel
theorem dX8_wax_27 : decode cX8_wax 27 = .ok (.ireturn, 1) := by decide +kernel
theorem dX8_wax_28 : decode cX8_wax 28 = .ok (.aload_n 0, 1) := by decide +kernel
theorem dX8_wax_29 : decode cX8_wax 29 = .ok (.getfield 23, 3) := by decide +kernel
theorem dX8_wax_32 : decode cX8_wax 32 = .ok (.iload_n 1, 1) := by decide +kernel
theorem dX8_wax_33 : decode cX8_wax 33 = .ok (.aaload, 1) := by decide +kernel
theorem dX8_wax_34 : decode cX8_wax 34 = .ok (.getfield 110, 3) := by decide +kernel
theorem dX8_wax_37 : decode cX8_wax 37 = .ok (.ifCond .ne 9, 3) := by decide +kernel
theorem dX8_wax_40 : decode cX8_wax 40 = .ok (.aload_n 0, 1) := by decide +kernel
theorem dX8_wax_41 : decode cX8_wax 41 = .ok (.iconst 1, 1) := by decide +kernel
theorem dX8_wax_42 : decode cX8_wax 42 = .ok (.invokevirtual 150, 3) := by decide +kernel
theorem dX8_wax_45 : decode cX8_wax 45 = .ok (.ireturn, 1) := by decide +kernel
theorem dX8_wax_46 : decode cX8_wax 46 = .ok (.aload_n 0, 1) := by decide +kernel
theorem dX8_wax_47 : decode cX8_wax 47 = .ok (.getfield 23, 3) := by decide +kernel
theorem dX8_wax_50 : decode cX8_wax 50 = .ok (.iload_n 1, 1) := by decide +kernel
theorem dX8_wax_51 : decode cX8_wax 51 = .ok (.aaload, 1) := by decide +kernel
theorem dX8_wax_52 : decode cX8_wax 52 = .ok (.getfield 226, 3) := by decide +kernel
theorem dX8_wax_55 : decode cX8_wax 55 = .ok (.iconst 4, 1) := by decide +kernel
theorem dX8_wax_56 : decode cX8_wax 56 = .ok (.iload_n 2, 1) := by decide +kernel
theorem dX8_wax_57 : decode cX8_wax 57 = .ok (.iadd, 1) := by decide +kernel
theorem dX8_wax_58 : decode cX8_wax 58 = .ok (.iaload, 1) := by decide +kernel
theorem dX8_wax_59 : decode cX8_wax 59 = .ok (.istore 4, 2) := by decide +kernel
theorem dX8_wax_61 : decode cX8_wax 61 = .ok (.aload_n 0, 1) := by decide +kernel
theorem dX8_wax_62 : decode cX8_wax 62 = .ok (.getfield 23, 3) := by decide +kernel
theorem dX8_wax_65 : decode cX8_wax 65 = .ok (.iload_n 1, 1) := by decide +kernel
theorem dX8_wax_66 : decode cX8_wax 66 = .ok (.aaload, 1) := by decide +kernel
theorem dX8_wax_67 : decode cX8_wax 67 = .ok (.getfield 226, 3) := by decide +kernel
theorem dX8_wax_70 : decode cX8_wax 70 = .ok (.iconst 4, 1) := by decide +kernel
theorem dX8_wax_71 : decode cX8_wax 71 = .ok (.iload_n 2, 1) := by decide +kernel
theorem dX8_wax_72 : decode cX8_wax 72 = .ok (.iadd, 1) := by decide +kernel
theorem dX8_wax_73 : decode cX8_wax 73 = .ok (.iload_n 3, 1) := by decide +kernel
theorem dX8_wax_74 : decode cX8_wax 74 = .ok (.iastore, 1) := by decide +kernel
theorem dX8_wax_75 : decode cX8_wax 75 = .ok (.iload 4, 2) := by decide +kernel
theorem dX8_wax_77 : decode cX8_wax 77 = .ok (.ireturn, 1) := by decide +kernel
theorem dX8_walk_0 : decode cX8_walk 0 = .ok (.iload_n 1, 1) := by decide +kernel
theorem dX8_walk_1 : decode cX8_walk 1 = .ok (.iload_n 2, 1) := by decide +kernel
theorem dX8_walk_2 : decode cX8_walk 2 = .ok (.iload_n 3, 1) := by decide +kernel
theorem dX8_walk_3 : decode cX8_walk 3 = .ok (.iload 4, 2) := by decide +kernel
theorem dX8_walk_5 : decode cX8_walk 5 = .ok (.invokestatic 229, 3) := by decide +kernel
theorem dX8_walk_8 : decode cX8_walk 8 = .ok (.ifCond .ne 13, 3) := by decide +kernel
theorem dX8_walk_11 : decode cX8_walk 11 = .ok (.iload 5, 2) := by decide +kernel
theorem dX8_walk_13 : decode cX8_walk 13 = .ok (.iconst 0, 1) := by decide +kernel
theorem dX8_walk_14 : decode cX8_walk 14 = .ok (.iconst 1, 1) := by decide +kernel
theorem dX8_walk_15 : decode cX8_walk 15 = .ok (.invokestatic 90, 3) := by decide +kernel
theorem dX8_walk_18 : decode cX8_walk 18 = .ok (.ifCond .eq 5, 3) := by decide +kernel
theorem dX8_walk_21 : decode cX8_walk 21 = .ok (.iconst (-1), 1) := by decide +kernel
theorem dX8_walk_22 : decode cX8_walk 22 = .ok (.ireturn, 1) := by decide +kernel
theorem dX8_walk_23 : decode cX8_walk 23 = .ok (.aload_n 0, 1) := by decide +kernel
theorem dX8_walk_24 : decode cX8_walk 24 = .ok (.getfield 23, 3) := by decide +kernel
theorem dX8_walk_27 : decode cX8_walk 27 = .ok (.iload_n 1, 1) := by decide +kernel
theorem dX8_walk_28 : decode cX8_walk 28 = .ok (.aaload, 1) := by decide +kernel
theorem dX8_walk_29 : decode cX8_walk 29 = .ok (.getfield 110, 3) := by decide +kernel
theorem dX8_walk_32 : decode cX8_walk 32 = .ok (.ifCond .eq 15, 3) := by decide +kernel
theorem dX8_walk_35 : decode cX8_walk 35 = .ok (.aload_n 0, 1) := by decide +kernel
theorem dX8_walk_36 : decode cX8_walk 36 = .ok (.getfield 29, 3) := by decide +kernel
theorem dX8_walk_39 : decode cX8_walk 39 = .ok (.iload_n 2, 1) := by decide +kernel
theorem dX8_walk_40 : decode cX8_walk 40 = .ok (.aaload, 1) := by decide +kernel
theorem dX8_walk_41 : decode cX8_walk 41 = .ok (.getfield 114, 3) := by decide +kernel
theorem dX8_walk_44 : decode cX8_walk 44 = .ok (.ifCond .ne 9, 3) := by decide +kernel
theorem dX8_walk_47 : decode cX8_walk 47 = .ok (.aload_n 0, 1) := by decide +kernel
theorem dX8_walk_48 : decode cX8_walk 48 = .ok (.iconst 1, 1) := by decide +kernel
theorem dX8_walk_49 : decode cX8_walk 49 = .ok (.invokevirtual 150, 3) := by decide +kernel
theorem dX8_walk_52 : decode cX8_walk 52 = .ok (.ireturn, 1) := by decide +kernel
theorem dX8_walk_53 : decode cX8_walk 53 = .ok (.aload_n 0, 1) := by decide +kernel
theorem dX8_walk_54 : decode cX8_walk 54 = .ok (.getfield 36, 3) := by decide +kernel
theorem dX8_walk_57 : decode cX8_walk 57 = .ok (.getfield 116, 3) := by decide +kernel
theorem dX8_walk_60 : decode cX8_walk 60 = .ok (.aload_n 0, 1) := by decide +kernel
theorem dX8_walk_61 : decode cX8_walk 61 = .ok (.getfield 23, 3) := by decide +kernel
theorem dX8_walk_64 : decode cX8_walk 64 = .ok (.iload_n 1, 1) := by decide +kernel
theorem dX8_walk_65 : decode cX8_walk 65 = .ok (.aaload, 1) := by decide +kernel
theorem dX8_walk_66 : decode cX8_walk 66 = .ok (.invokevirtual 120, 3) := by decide +kernel
theorem dX8_walk_69 : decode cX8_walk 69 = .ok (.aload_n 0, 1) := by decide +kernel
theorem dX8_walk_70 : decode cX8_walk 70 = .ok (.getfield 36, 3) := by decide +kernel
theorem dX8_walk_73 : decode cX8_walk 73 = .ok (.getfield 124, 3) := by decide +kernel
theorem dX8_walk_76 : decode cX8_walk 76 = .ok (.aload_n 0, 1) := by decide +kernel
theorem dX8_walk_77 : decode cX8_walk 77 = .ok (.getfield 29, 3) := by decide +kernel
theorem dX8_walk_80 : decode cX8_walk 80 = .ok (.iload_n 2, 1) := by decide +kernel
theorem dX8_walk_81 : decode cX8_walk 81 = .ok (.aaload, 1) := by decide +kernel
theorem dX8_walk_82 : decode cX8_walk 82 = .ok (.invokevirtual 214, 3) := by decide +kernel
theorem dX8_walk_85 : decode cX8_walk 85 = .ok (.aload_n 0, 1) := by decide +kernel
theorem dX8_walk_86 : decode cX8_walk 86 = .ok (.getfield 36, 3) := by decide +kernel
theorem dX8_walk_89 : decode cX8_walk 89 = .ok (.iload_n 3, 1) := by decide +kernel
theorem dX8_walk_90 : decode cX8_walk 90 = .ok (.iload 4, 2) := by decide +kernel
theorem dX8_walk_92 : decode cX8_walk 92 = .ok (.iload 5, 2) := by decide +kernel
theorem dX8_walk_94 : decode cX8_walk 94 = .ok (.invokevirtual 233, 3) := by decide +kernel
theorem dX8_walk_97 : decode cX8_walk 97 = .ok (.aload_n 0, 1) := by decide +kernel
theorem dX8_walk_98 : decode cX8_walk 98 = .ok (.getfield 36, 3) := by decide +kernel
theorem dX8_walk_101 : decode cX8_walk 101 = .ok (.iconst 1, 1) := by decide +kernel
theorem dX8_walk_102 : decode cX8_walk 102 = .ok (.putfield 237, 3) := by decide +kernel
theorem dX8_walk_105 : decode cX8_walk 105 = .ok (.aload_n 0, 1) := by decide +kernel
theorem dX8_walk_106 : decode cX8_walk 106 = .ok (.getfield 36, 3) := by decide +kernel
theorem dX8_walk_109 : decode cX8_walk 109 = .ok (.getfield 116, 3) := by decide +kernel
theorem dX8_walk_112 : decode cX8_walk 112 = .ok (.iload_n 3, 1) := by decide +kernel
theorem dX8_walk_113 : decode cX8_walk 113 = .ok (.iload 5, 2) := by decide +kernel
theorem dX8_walk_115 : decode cX8_walk 115 = .ok (.invokevirtual 238, 3) := by decide +kernel
theorem dX8_walk_118 : decode cX8_walk 118 = .ok (.ireturn, 1) := by decide +kernel
theorem dX8_go_0 : decode cX8_go 0 = .ok (.iload_n 1, 1) := by decide +kernel
theorem dX8_go_1 : decode cX8_go 1 = .ok (.iconst 0, 1) := by decide +kernel
theorem dX8_go_2 : decode cX8_go 2 = .ok (.sipush 400, 3) := by decide +kernel
theorem dX8_go_5 : decode cX8_go 5 = .ok (.invokestatic 90, 3) := by decide +kernel
theorem dX8_go_8 : decode cX8_go 8 = .ok (.ifCond .eq 5, 3) := by decide +kernel
theorem dX8_go_11 : decode cX8_go 11 = .ok (.iconst (-1), 1) := by decide +kernel
theorem dX8_go_12 : decode cX8_go 12 = .ok (.ireturn, 1) := by decide +kernel
theorem dX8_go_13 : decode cX8_go 13 = .ok (.aload_n 0, 1) := by decide +kernel
theorem dX8_go_14 : decode cX8_go 14 = .ok (.getfield 36, 3) := by decide +kernel
theorem dX8_go_17 : decode cX8_go 17 = .ok (.getfield 237, 3) := by decide +kernel
theorem dX8_go_20 : decode cX8_go 20 = .ok (.ifCond .ne 6, 3) := by decide +kernel
theorem dX8_go_23 : decode cX8_go 23 = .ok (.bipush (-4), 2) := by decide +kernel
theorem dX8_go_25 : decode cX8_go 25 = .ok (.ireturn, 1) := by decide +kernel
theorem dX8_go_26 : decode cX8_go 26 = .ok (.aload_n 0, 1) := by decide +kernel
theorem dX8_go_27 : decode cX8_go 27 = .ok (.getfield 36, 3) := by decide +kernel
theorem dX8_go_30 : decode cX8_go 30 = .ok (.getfield 241, 3) := by decide +kernel
theorem dX8_go_33 : decode cX8_go 33 = .ok (.iload_n 1, 1) := by decide +kernel
theorem dX8_go_34 : decode cX8_go 34 = .ok (.iadd, 1) := by decide +kernel
theorem dX8_go_35 : decode cX8_go 35 = .ok (.sipush 10000, 3) := by decide +kernel
theorem dX8_go_38 : decode cX8_go 38 = .ok (.if_icmp .le 6, 3) := by decide +kernel
theorem dX8_go_41 : decode cX8_go 41 = .ok (.bipush (-6), 2) := by decide +kernel
theorem dX8_go_43 : decode cX8_go 43 = .ok (.ireturn, 1) := by decide +kernel
theorem dX8_go_44 : decode cX8_go 44 = .ok (.aload_n 0, 1) := by decide +kernel
theorem dX8_go_45 : decode cX8_go 45 = .ok (.getfield 36, 3) := by decide +kernel
theorem dX8_go_48 : decode cX8_go 48 = .ok (.iload_n 1, 1) := by decide +kernel
theorem dX8_go_49 : decode cX8_go 49 = .ok (.invokevirtual 244, 3) := by decide +kernel
theorem dX8_go_52 : decode cX8_go 52 = .ok (.ireturn, 1) := by decide +kernel
theorem dX8_told_0 : decode cX8_told 0 = .ok (.iload_n 1, 1) := by decide +kernel
theorem dX8_told_1 : decode cX8_told 1 = .ok (.iconst 0, 1) := by decide +kernel
theorem dX8_told_2 : decode cX8_told 2 = .ok (.bipush 6, 2) := by decide +kernel
theorem dX8_told_4 : decode cX8_told 4 = .ok (.invokestatic 90, 3) := by decide +kernel
theorem dX8_told_7 : decode cX8_told 7 = .ok (.ifCond .eq 5, 3) := by decide +kernel
theorem dX8_told_10 : decode cX8_told 10 = .ok (.iconst (-1), 1) := by decide +kernel
theorem dX8_told_11 : decode cX8_told 11 = .ok (.ireturn, 1) := by decide +kernel
theorem dX8_told_12 : decode cX8_told 12 = .ok (.aload_n 0, 1) := by decide +kernel
theorem dX8_told_13 : decode cX8_told 13 = .ok (.getfield 36, 3) := by decide +kernel
theorem dX8_told_16 : decode cX8_told 16 = .ok (.getfield 237, 3) := by decide +kernel
theorem dX8_told_19 : decode cX8_told 19 = .ok (.ifCond .ne 6, 3) := by decide +kernel
theorem dX8_told_22 : decode cX8_told 22 = .ok (.bipush (-4), 2) := by decide +kernel
theorem dX8_told_24 : decode cX8_told 24 = .ok (.ireturn, 1) := by decide +kernel
theorem dX8_told_25 : decode cX8_told 25 = .ok (.aload_n 0, 1) := by decide +kernel
theorem dX8_told_26 : decode cX8_told 26 = .ok (.aload_n 0, 1) := by decide +kernel
theorem dX8_told_27 : decode cX8_told 27 = .ok (.getfield 36, 3) := by decide +kernel
theorem dX8_told_30 : decode cX8_told 30 = .ok (.iload_n 1, 1) := by decide +kernel
theorem dX8_told_31 : decode cX8_told 31 = .ok (.invokevirtual 247, 3) := by decide +kernel
theorem dX8_told_34 : decode cX8_told 34 = .ok (.invokevirtual 167, 3) := by decide +kernel
theorem dX8_told_37 : decode cX8_told 37 = .ok (.ireturn, 1) := by decide +kernel
theorem dX8_tocks_0 : decode cX8_tocks 0 = .ok (.iload_n 1, 1) := by decide +kernel
theorem dX8_tocks_1 : decode cX8_tocks 1 = .ok (.iconst 0, 1) := by decide +kernel
theorem dX8_tocks_2 : decode cX8_tocks 2 = .ok (.bipush 60, 2) := by decide +kernel
theorem dX8_tocks_4 : decode cX8_tocks 4 = .ok (.invokestatic 90, 3) := by decide +kernel
theorem dX8_tocks_7 : decode cX8_tocks 7 = .ok (.ifCond .ne 10, 3) := by decide +kernel
theorem dX8_tocks_10 : decode cX8_tocks 10 = .ok (.iload_n 2, 1) := by decide +kernel
theorem dX8_tocks_11 : decode cX8_tocks 11 = .ok (.invokestatic 147, 3) := by decide +kernel
theorem dX8_tocks_14 : decode cX8_tocks 14 = .ok (.ifCond .eq 5, 3) := by decide +kernel
theorem dX8_tocks_17 : decode cX8_tocks 17 = .ok (.iconst (-1), 1) := by decide +kernel
theorem dX8_tocks_18 : decode cX8_tocks 18 = .ok (.ireturn, 1) := by decide +kernel
theorem dX8_tocks_19 : decode cX8_tocks 19 = .ok (.aload_n 0, 1) := by decide +kernel
theorem dX8_tocks_20 : decode cX8_tocks 20 = .ok (.getfield 36, 3) := by decide +kernel
theorem dX8_tocks_23 : decode cX8_tocks 23 = .ok (.getfield 237, 3) := by decide +kernel
theorem dX8_tocks_26 : decode cX8_tocks 26 = .ok (.ifCond .ne 6, 3) := by decide +kernel
theorem dX8_tocks_29 : decode cX8_tocks 29 = .ok (.bipush (-4), 2) := by decide +kernel
theorem dX8_tocks_31 : decode cX8_tocks 31 = .ok (.ireturn, 1) := by decide +kernel
theorem dX8_tocks_32 : decode cX8_tocks 32 = .ok (.aload_n 0, 1) := by decide +kernel
theorem dX8_tocks_33 : decode cX8_tocks 33 = .ok (.getfield 36, 3) := by decide +kernel
theorem dX8_tocks_36 : decode cX8_tocks 36 = .ok (.getfield 241, 3) := by decide +kernel
theorem dX8_tocks_39 : decode cX8_tocks 39 = .ok (.iload_n 1, 1) := by decide +kernel
theorem dX8_tocks_40 : decode cX8_tocks 40 = .ok (.iadd, 1) := by decide +kernel
theorem dX8_tocks_41 : decode cX8_tocks 41 = .ok (.sipush 10000, 3) := by decide +kernel
theorem dX8_tocks_44 : decode cX8_tocks 44 = .ok (.if_icmp .le 6, 3) := by decide +kernel
theorem dX8_tocks_47 : decode cX8_tocks 47 = .ok (.bipush (-6), 2) := by decide +kernel
theorem dX8_tocks_49 : decode cX8_tocks 49 = .ok (.ireturn, 1) := by decide +kernel
theorem dX8_tocks_50 : decode cX8_tocks 50 = .ok (.aload_n 0, 1) := by decide +kernel
theorem dX8_tocks_51 : decode cX8_tocks 51 = .ok (.getfield 11, 3) := by decide +kernel
theorem dX8_tocks_54 : decode cX8_tocks 54 = .ok (.iload_n 2, 1) := by decide +kernel
theorem dX8_tocks_55 : decode cX8_tocks 55 = .ok (.aaload, 1) := by decide +kernel
theorem dX8_tocks_56 : decode cX8_tocks 56 = .ok (.iload_n 1, 1) := by decide +kernel
theorem dX8_tocks_57 : decode cX8_tocks 57 = .ok (.invokevirtual 153, 3) := by decide +kernel
theorem dX8_tocks_60 : decode cX8_tocks 60 = .ok (.iconst 0, 1) := by decide +kernel
theorem dX8_tocks_61 : decode cX8_tocks 61 = .ok (.istore_n 3, 1) := by decide +kernel
theorem dX8_tocks_62 : decode cX8_tocks 62 = .ok (.iload_n 3, 1) := by decide +kernel
theorem dX8_tocks_63 : decode cX8_tocks 63 = .ok (.iload_n 1, 1) := by decide +kernel
theorem dX8_tocks_64 : decode cX8_tocks 64 = .ok (.if_icmp .ge 37, 3) := by decide +kernel
theorem dX8_tocks_67 : decode cX8_tocks 67 = .ok (.aload_n 0, 1) := by decide +kernel
theorem dX8_tocks_68 : decode cX8_tocks 68 = .ok (.getfield 36, 3) := by decide +kernel
theorem dX8_tocks_71 : decode cX8_tocks 71 = .ok (.invokevirtual 248, 3) := by decide +kernel
theorem dX8_tocks_74 : decode cX8_tocks 74 = .ok (.ifCond .eq 27, 3) := by decide +kernel
theorem dX8_tocks_77 : decode cX8_tocks 77 = .ok (.aload_n 0, 1) := by decide +kernel
theorem dX8_tocks_78 : decode cX8_tocks 78 = .ok (.getfield 11, 3) := by decide +kernel
theorem dX8_tocks_81 : decode cX8_tocks 81 = .ok (.iload_n 2, 1) := by decide +kernel
theorem dX8_tocks_82 : decode cX8_tocks 82 = .ok (.aaload, 1) := by decide +kernel
theorem dX8_tocks_83 : decode cX8_tocks 83 = .ok (.getfield 164, 3) := by decide +kernel
theorem dX8_tocks_86 : decode cX8_tocks 86 = .ok (.iload_n 3, 1) := by decide +kernel
theorem dX8_tocks_87 : decode cX8_tocks 87 = .ok (.aload_n 0, 1) := by decide +kernel
theorem dX8_tocks_88 : decode cX8_tocks 88 = .ok (.getfield 36, 3) := by decide +kernel
theorem dX8_tocks_91 : decode cX8_tocks 91 = .ok (.getfield 251, 3) := by decide +kernel
theorem dX8_tocks_94 : decode cX8_tocks 94 = .ok (.iastore, 1) := by decide +kernel
theorem dX8_tocks_95 : decode cX8_tocks 95 = .ok (.iinc 3 1, 3) := by decide +kernel
theorem dX8_tocks_98 : decode cX8_tocks 98 = .ok (.goto (-36), 3) := by decide +kernel
theorem dX8_tocks_101 : decode cX8_tocks 101 = .ok (.iload_n 3, 1) := by decide +kernel
theorem dX8_tocks_102 : decode cX8_tocks 102 = .ok (.ireturn, 1) := by decide +kernel
theorem dX8_tilt_0 : decode cX8_tilt 0 = .ok (.iload_n 1, 1) := by decide +kernel
theorem dX8_tilt_1 : decode cX8_tilt 1 = .ok (.invokestatic 107, 3) := by decide +kernel
theorem dX8_tilt_4 : decode cX8_tilt 4 = .ok (.ifCond .eq 5, 3) := by decide +kernel
theorem dX8_tilt_7 : decode cX8_tilt 7 = .ok (.iconst (-1), 1) := by decide +kernel
theorem dX8_tilt_8 : decode cX8_tilt 8 = .ok (.ireturn, 1) := by decide +kernel
theorem dX8_tilt_9 : decode cX8_tilt 9 = .ok (.aload_n 0, 1) := by decide +kernel
theorem dX8_tilt_10 : decode cX8_tilt 10 = .ok (.getfield 36, 3) := by decide +kernel
theorem dX8_tilt_13 : decode cX8_tilt 13 = .ok (.getfield 237, 3) := by decide +kernel
theorem dX8_tilt_16 : decode cX8_tilt 16 = .ok (.ifCond .ne 6, 3) := by decide +kernel
theorem dX8_tilt_19 : decode cX8_tilt 19 = .ok (.bipush (-4), 2) := by decide +kernel
theorem dX8_tilt_21 : decode cX8_tilt 21 = .ok (.ireturn, 1) := by decide +kernel
theorem dX8_tilt_22 : decode cX8_tilt 22 = .ok (.aload_n 0, 1) := by decide +kernel
theorem dX8_tilt_23 : decode cX8_tilt 23 = .ok (.getfield 36, 3) := by decide +kernel
theorem dX8_tilt_26 : decode cX8_tilt 26 = .ok (.getfield 254, 3) := by decide +kernel
theorem dX8_tilt_29 : decode cX8_tilt 29 = .ok (.istore_n 2, 1) := by decide +kernel
theorem dX8_tilt_30 : decode cX8_tilt 30 = .ok (.aload_n 0, 1) := by decide +kernel
theorem dX8_tilt_31 : decode cX8_tilt 31 = .ok (.getfield 36, 3) := by decide +kernel
theorem dX8_tilt_34 : decode cX8_tilt 34 = .ok (.iload_n 1, 1) := by decide +kernel
theorem dX8_tilt_35 : decode cX8_tilt 35 = .ok (.putfield 254, 3) := by decide +kernel
theorem dX8_tilt_38 : decode cX8_tilt 38 = .ok (.iload_n 2, 1) := by decide +kernel
theorem dX8_tilt_39 : decode cX8_tilt 39 = .ok (.ireturn, 1) := by decide +kernel
theorem dX8_keep_0 : decode cX8_keep 0 = .ok (.iload_n 1, 1) := by decide +kernel
theorem dX8_keep_1 : decode cX8_keep 1 = .ok (.iconst 0, 1) := by decide +kernel
theorem dX8_keep_2 : decode cX8_keep 2 = .ok (.iconst 2, 1) := by decide +kernel
theorem dX8_keep_3 : decode cX8_keep 3 = .ok (.invokestatic 90, 3) := by decide +kernel
theorem dX8_keep_6 : decode cX8_keep 6 = .ok (.ifCond .eq 5, 3) := by decide +kernel
theorem dX8_keep_9 : decode cX8_keep 9 = .ok (.iconst (-1), 1) := by decide +kernel
theorem dX8_keep_10 : decode cX8_keep 10 = .ok (.ireturn, 1) := by decide +kernel
theorem dX8_keep_11 : decode cX8_keep 11 = .ok (.aload_n 0, 1) := by decide +kernel
theorem dX8_keep_12 : decode cX8_keep 12 = .ok (.getfield 36, 3) := by decide +kernel
theorem dX8_keep_15 : decode cX8_keep 15 = .ok (.getfield 237, 3) := by decide +kernel
theorem dX8_keep_18 : decode cX8_keep 18 = .ok (.ifCond .ne 6, 3) := by decide +kernel
theorem dX8_keep_21 : decode cX8_keep 21 = .ok (.bipush (-4), 2) := by decide +kernel
theorem dX8_keep_23 : decode cX8_keep 23 = .ok (.ireturn, 1) := by decide +kernel
theorem dX8_keep_24 : decode cX8_keep 24 = .ok (.aload_n 0, 1) := by decide +kernel
theorem dX8_keep_25 : decode cX8_keep 25 = .ok (.getfield 40, 3) := by decide +kernel
theorem dX8_keep_28 : decode cX8_keep 28 = .ok (.iload_n 1, 1) := by decide +kernel
theorem dX8_keep_29 : decode cX8_keep 29 = .ok (.aaload, 1) := by decide +kernel
theorem dX8_keep_30 : decode cX8_keep 30 = .ok (.aload_n 0, 1) := by decide +kernel
theorem dX8_keep_31 : decode cX8_keep 31 = .ok (.getfield 36, 3) := by decide +kernel
theorem dX8_keep_34 : decode cX8_keep 34 = .ok (.invokevirtual 257, 3) := by decide +kernel
theorem dX8_keep_37 : decode cX8_keep 37 = .ok (.aload_n 0, 1) := by decide +kernel
theorem dX8_keep_38 : decode cX8_keep 38 = .ok (.getfield 36, 3) := by decide +kernel
theorem dX8_keep_41 : decode cX8_keep 41 = .ok (.getfield 241, 3) := by decide +kernel
theorem dX8_keep_44 : decode cX8_keep 44 = .ok (.ireturn, 1) := by decide +kernel
theorem dX8_on_0 : decode cX8_on 0 = .ok (.iload_n 1, 1) := by decide +kernel
theorem dX8_on_1 : decode cX8_on 1 = .ok (.iconst 0, 1) := by decide +kernel
theorem dX8_on_2 : decode cX8_on 2 = .ok (.iconst 2, 1) := by decide +kernel
theorem dX8_on_3 : decode cX8_on 3 = .ok (.invokestatic 90, 3) := by decide +kernel
theorem dX8_on_6 : decode cX8_on 6 = .ok (.ifCond .eq 5, 3) := by decide +kernel
theorem dX8_on_9 : decode cX8_on 9 = .ok (.iconst (-1), 1) := by decide +kernel
theorem dX8_on_10 : decode cX8_on 10 = .ok (.ireturn, 1) := by decide +kernel
theorem dX8_on_11 : decode cX8_on 11 = .ok (.aload_n 0, 1) := by decide +kernel
theorem dX8_on_12 : decode cX8_on 12 = .ok (.getfield 40, 3) := by decide +kernel
theorem dX8_on_15 : decode cX8_on 15 = .ok (.iload_n 1, 1) := by decide +kernel
theorem dX8_on_16 : decode cX8_on 16 = .ok (.aaload, 1) := by decide +kernel
theorem dX8_on_17 : decode cX8_on 17 = .ok (.getfield 237, 3) := by decide +kernel
theorem dX8_on_20 : decode cX8_on 20 = .ok (.ifCond .ne 9, 3) := by decide +kernel
end
section
theorem dX8_on_23 : decode cX8_on 23 = .ok (.aload_n 0, 1) := by decide +kernel
theorem dX8_on_24 : decode cX8_on 24 = .ok (.iconst 1, 1) := by decide +kernel
theorem dX8_on_25 : decode cX8_on 25 = .ok (.invokevirtual 150, 3) := by decide +kernel
theorem dX8_on_28 : decode cX8_on 28 = .ok (.ireturn, 1) := by decide +kernel
theorem dX8_on_29 : decode cX8_on 29 = .ok (.aload_n 0, 1) := by decide +kernel
theorem dX8_on_30 : decode cX8_on 30 = .ok (.getfield 36, 3) := by decide +kernel
theorem dX8_on_33 : decode cX8_on 33 = .ok (.aload_n 0, 1) := by decide +kernel
theorem dX8_on_34 : decode cX8_on 34 = .ok (.getfield 40, 3) := by decide +kernel
theorem dX8_on_37 : decode cX8_on 37 = .ok (.iload_n 1, 1) := by decide +kernel
theorem dX8_on_38 : decode cX8_on 38 = .ok (.aaload, 1) := by decide +kernel
theorem dX8_on_39 : decode cX8_on 39 = .ok (.invokevirtual 257, 3) := by decide +kernel
theorem dX8_on_42 : decode cX8_on 42 = .ok (.aload_n 0, 1) := by decide +kernel
theorem dX8_on_43 : decode cX8_on 43 = .ok (.getfield 36, 3) := by decide +kernel
theorem dX8_on_46 : decode cX8_on 46 = .ok (.getfield 241, 3) := by decide +kernel
theorem dX8_on_49 : decode cX8_on 49 = .ok (.ireturn, 1) := by decide +kernel
theorem dX8_turns_0 : decode cX8_turns 0 = .ok (.aload_n 0, 1) := by decide +kernel
theorem dX8_turns_1 : decode cX8_turns 1 = .ok (.getfield 36, 3) := by decide +kernel
theorem dX8_turns_4 : decode cX8_turns 4 = .ok (.getfield 237, 3) := by decide +kernel
theorem dX8_turns_7 : decode cX8_turns 7 = .ok (.ifCond .ne 6, 3) := by decide +kernel
theorem dX8_turns_10 : decode cX8_turns 10 = .ok (.bipush (-4), 2) := by decide +kernel
theorem dX8_turns_12 : decode cX8_turns 12 = .ok (.ireturn, 1) := by decide +kernel
theorem dX8_turns_13 : decode cX8_turns 13 = .ok (.aload_n 0, 1) := by decide +kernel
theorem dX8_turns_14 : decode cX8_turns 14 = .ok (.getfield 36, 3) := by decide +kernel
theorem dX8_turns_17 : decode cX8_turns 17 = .ok (.getfield 116, 3) := by decide +kernel
theorem dX8_turns_20 : decode cX8_turns 20 = .ok (.getfield 226, 3) := by decide +kernel
theorem dX8_turns_23 : decode cX8_turns 23 = .ok (.iconst 5, 1) := by decide +kernel
theorem dX8_turns_24 : decode cX8_turns 24 = .ok (.iaload, 1) := by decide +kernel
theorem dX8_turns_25 : decode cX8_turns 25 = .ok (.aload_n 0, 1) := by decide +kernel
theorem dX8_turns_26 : decode cX8_turns 26 = .ok (.getfield 36, 3) := by decide +kernel
theorem dX8_turns_29 : decode cX8_turns 29 = .ok (.getfield 116, 3) := by decide +kernel
theorem dX8_turns_32 : decode cX8_turns 32 = .ok (.getfield 226, 3) := by decide +kernel
theorem dX8_turns_35 : decode cX8_turns 35 = .ok (.iconst 4, 1) := by decide +kernel
theorem dX8_turns_36 : decode cX8_turns 36 = .ok (.iaload, 1) := by decide +kernel
theorem dX8_turns_37 : decode cX8_turns 37 = .ok (.isub, 1) := by decide +kernel
theorem dX8_turns_38 : decode cX8_turns 38 = .ok (.istore_n 1, 1) := by decide +kernel
theorem dX8_turns_39 : decode cX8_turns 39 = .ok (.aload_n 0, 1) := by decide +kernel
theorem dX8_turns_40 : decode cX8_turns 40 = .ok (.iload_n 1, 1) := by decide +kernel
theorem dX8_turns_41 : decode cX8_turns 41 = .ok (.ifCond .ne 8, 3) := by decide +kernel
theorem dX8_turns_44 : decode cX8_turns 44 = .ok (.bipush (-9), 2) := by decide +kernel
theorem dX8_turns_46 : decode cX8_turns 46 = .ok (.goto 18, 3) := by decide +kernel
theorem dX8_turns_49 : decode cX8_turns 49 = .ok (.sipush 360, 3) := by decide +kernel
theorem dX8_turns_52 : decode cX8_turns 52 = .ok (.iconst 1, 1) := by decide +kernel
theorem dX8_turns_53 : decode cX8_turns 53 = .ok (.iload_n 1, 1) := by decide +kernel
theorem dX8_turns_54 : decode cX8_turns 54 = .ok (.sipush 360, 3) := by decide +kernel
theorem dX8_turns_57 : decode cX8_turns 57 = .ok (.invokestatic 134, 3) := by decide +kernel
theorem dX8_turns_60 : decode cX8_turns 60 = .ok (.invokestatic 138, 3) := by decide +kernel
theorem dX8_turns_63 : decode cX8_turns 63 = .ok (.idiv, 1) := by decide +kernel
theorem dX8_turns_64 : decode cX8_turns 64 = .ok (.invokevirtual 167, 3) := by decide +kernel
theorem dX8_turns_67 : decode cX8_turns 67 = .ok (.pop, 1) := by decide +kernel
theorem dX8_turns_68 : decode cX8_turns 68 = .ok (.aload_n 0, 1) := by decide +kernel
theorem dX8_turns_69 : decode cX8_turns 69 = .ok (.getfield 36, 3) := by decide +kernel
theorem dX8_turns_72 : decode cX8_turns 72 = .ok (.getfield 241, 3) := by decide +kernel
theorem dX8_turns_75 : decode cX8_turns 75 = .ok (.iload_n 1, 1) := by decide +kernel
theorem dX8_turns_76 : decode cX8_turns 76 = .ok (.imul, 1) := by decide +kernel
theorem dX8_turns_77 : decode cX8_turns 77 = .ok (.sipush 360, 3) := by decide +kernel
theorem dX8_turns_80 : decode cX8_turns 80 = .ok (.invokestatic 260, 3) := by decide +kernel
theorem dX8_turns_83 : decode cX8_turns 83 = .ok (.ireturn, 1) := by decide +kernel
theorem dX8_going_0 : decode cX8_going 0 = .ok (.iload_n 1, 1) := by decide +kernel
theorem dX8_going_1 : decode cX8_going 1 = .ok (.iload_n 2, 1) := by decide +kernel
theorem dX8_going_2 : decode cX8_going 2 = .ok (.iload_n 3, 1) := by decide +kernel
theorem dX8_going_3 : decode cX8_going 3 = .ok (.iload 4, 2) := by decide +kernel
theorem dX8_going_5 : decode cX8_going 5 = .ok (.invokestatic 229, 3) := by decide +kernel
theorem dX8_going_8 : decode cX8_going 8 = .ok (.ifCond .eq 5, 3) := by decide +kernel
theorem dX8_going_11 : decode cX8_going 11 = .ok (.iconst (-1), 1) := by decide +kernel
theorem dX8_going_12 : decode cX8_going 12 = .ok (.ireturn, 1) := by decide +kernel
theorem dX8_going_13 : decode cX8_going 13 = .ok (.aload_n 0, 1) := by decide +kernel
theorem dX8_going_14 : decode cX8_going 14 = .ok (.iload_n 1, 1) := by decide +kernel
theorem dX8_going_15 : decode cX8_going 15 = .ok (.iload_n 2, 1) := by decide +kernel
theorem dX8_going_16 : decode cX8_going 16 = .ok (.invokevirtual 263, 3) := by decide +kernel
theorem dX8_going_19 : decode cX8_going 19 = .ok (.ifCond .ne 9, 3) := by decide +kernel
theorem dX8_going_22 : decode cX8_going 22 = .ok (.aload_n 0, 1) := by decide +kernel
theorem dX8_going_23 : decode cX8_going 23 = .ok (.iconst 1, 1) := by decide +kernel
theorem dX8_going_24 : decode cX8_going 24 = .ok (.invokevirtual 150, 3) := by decide +kernel
theorem dX8_going_27 : decode cX8_going 27 = .ok (.ireturn, 1) := by decide +kernel
theorem dX8_going_28 : decode cX8_going 28 = .ok (.aload_n 0, 1) := by decide +kernel
theorem dX8_going_29 : decode cX8_going 29 = .ok (.getfield 54, 3) := by decide +kernel
theorem dX8_going_32 : decode cX8_going 32 = .ok (.iload_n 3, 1) := by decide +kernel
theorem dX8_going_33 : decode cX8_going 33 = .ok (.iload 4, 2) := by decide +kernel
theorem dX8_going_35 : decode cX8_going 35 = .ok (.invokevirtual 266, 3) := by decide +kernel
theorem dX8_going_38 : decode cX8_going 38 = .ok (.aload_n 0, 1) := by decide +kernel
theorem dX8_going_39 : decode cX8_going 39 = .ok (.aload_n 0, 1) := by decide +kernel
theorem dX8_going_40 : decode cX8_going 40 = .ok (.getfield 54, 3) := by decide +kernel
theorem dX8_going_43 : decode cX8_going 43 = .ok (.getfield 270, 3) := by decide +kernel
theorem dX8_going_46 : decode cX8_going 46 = .ok (.invokevirtual 167, 3) := by decide +kernel
theorem dX8_going_49 : decode cX8_going 49 = .ok (.pop, 1) := by decide +kernel
theorem dX8_going_50 : decode cX8_going 50 = .ok (.aload_n 0, 1) := by decide +kernel
theorem dX8_going_51 : decode cX8_going 51 = .ok (.getfield 54, 3) := by decide +kernel
theorem dX8_going_54 : decode cX8_going 54 = .ok (.getfield 273, 3) := by decide +kernel
theorem dX8_going_57 : decode cX8_going 57 = .ok (.ireturn, 1) := by decide +kernel
theorem dX8_mark_0 : decode cX8_mark 0 = .ok (.iload_n 1, 1) := by decide +kernel
theorem dX8_mark_1 : decode cX8_mark 1 = .ok (.iload_n 2, 1) := by decide +kernel
theorem dX8_mark_2 : decode cX8_mark 2 = .ok (.iload_n 3, 1) := by decide +kernel
theorem dX8_mark_3 : decode cX8_mark 3 = .ok (.iload 4, 2) := by decide +kernel
theorem dX8_mark_5 : decode cX8_mark 5 = .ok (.invokestatic 229, 3) := by decide +kernel
theorem dX8_mark_8 : decode cX8_mark 8 = .ok (.ifCond .ne 14, 3) := by decide +kernel
theorem dX8_mark_11 : decode cX8_mark 11 = .ok (.iload 5, 2) := by decide +kernel
theorem dX8_mark_13 : decode cX8_mark 13 = .ok (.iconst 1, 1) := by decide +kernel
theorem dX8_mark_14 : decode cX8_mark 14 = .ok (.bipush 7, 2) := by decide +kernel
theorem dX8_mark_16 : decode cX8_mark 16 = .ok (.invokestatic 90, 3) := by decide +kernel
theorem dX8_mark_19 : decode cX8_mark 19 = .ok (.ifCond .eq 5, 3) := by decide +kernel
theorem dX8_mark_22 : decode cX8_mark 22 = .ok (.iconst (-1), 1) := by decide +kernel
theorem dX8_mark_23 : decode cX8_mark 23 = .ok (.ireturn, 1) := by decide +kernel
theorem dX8_mark_24 : decode cX8_mark 24 = .ok (.aload_n 0, 1) := by decide +kernel
theorem dX8_mark_25 : decode cX8_mark 25 = .ok (.iload_n 1, 1) := by decide +kernel
theorem dX8_mark_26 : decode cX8_mark 26 = .ok (.iload_n 2, 1) := by decide +kernel
theorem dX8_mark_27 : decode cX8_mark 27 = .ok (.invokevirtual 263, 3) := by decide +kernel
theorem dX8_mark_30 : decode cX8_mark 30 = .ok (.ifCond .ne 9, 3) := by decide +kernel
theorem dX8_mark_33 : decode cX8_mark 33 = .ok (.aload_n 0, 1) := by decide +kernel
theorem dX8_mark_34 : decode cX8_mark 34 = .ok (.iconst 1, 1) := by decide +kernel
theorem dX8_mark_35 : decode cX8_mark 35 = .ok (.invokevirtual 150, 3) := by decide +kernel
theorem dX8_mark_38 : decode cX8_mark 38 = .ok (.ireturn, 1) := by decide +kernel
theorem dX8_mark_39 : decode cX8_mark 39 = .ok (.aload_n 0, 1) := by decide +kernel
theorem dX8_mark_40 : decode cX8_mark 40 = .ok (.getfield 54, 3) := by decide +kernel
theorem dX8_mark_43 : decode cX8_mark 43 = .ok (.iload_n 3, 1) := by decide +kernel
theorem dX8_mark_44 : decode cX8_mark 44 = .ok (.iload 4, 2) := by decide +kernel
theorem dX8_mark_46 : decode cX8_mark 46 = .ok (.invokevirtual 266, 3) := by decide +kernel
theorem dX8_mark_49 : decode cX8_mark 49 = .ok (.aload_n 0, 1) := by decide +kernel
theorem dX8_mark_50 : decode cX8_mark 50 = .ok (.getfield 54, 3) := by decide +kernel
theorem dX8_mark_53 : decode cX8_mark 53 = .ok (.iload 5, 2) := by decide +kernel
theorem dX8_mark_55 : decode cX8_mark 55 = .ok (.invokevirtual 276, 3) := by decide +kernel
theorem dX8_mark_58 : decode cX8_mark 58 = .ok (.ifCond .ne 9, 3) := by decide +kernel
theorem dX8_mark_61 : decode cX8_mark 61 = .ok (.aload_n 0, 1) := by decide +kernel
theorem dX8_mark_62 : decode cX8_mark 62 = .ok (.iconst 3, 1) := by decide +kernel
theorem dX8_mark_63 : decode cX8_mark 63 = .ok (.invokevirtual 150, 3) := by decide +kernel
theorem dX8_mark_66 : decode cX8_mark 66 = .ok (.ireturn, 1) := by decide +kernel
theorem dX8_mark_67 : decode cX8_mark 67 = .ok (.iload 5, 2) := by decide +kernel
theorem dX8_mark_69 : decode cX8_mark 69 = .ok (.iconst 3, 1) := by decide +kernel
theorem dX8_mark_70 : decode cX8_mark 70 = .ok (.if_icmp .ne 16, 3) := by decide +kernel
theorem dX8_mark_73 : decode cX8_mark 73 = .ok (.aload_n 0, 1) := by decide +kernel
theorem dX8_mark_74 : decode cX8_mark 74 = .ok (.getfield 54, 3) := by decide +kernel
theorem dX8_mark_77 : decode cX8_mark 77 = .ok (.iload_n 3, 1) := by decide +kernel
theorem dX8_mark_78 : decode cX8_mark 78 = .ok (.iload 4, 2) := by decide +kernel
theorem dX8_mark_80 : decode cX8_mark 80 = .ok (.invokevirtual 279, 3) := by decide +kernel
theorem dX8_mark_83 : decode cX8_mark 83 = .ok (.goto 12, 3) := by decide +kernel
theorem dX8_mark_86 : decode cX8_mark 86 = .ok (.aload_n 0, 1) := by decide +kernel
theorem dX8_mark_87 : decode cX8_mark 87 = .ok (.getfield 54, 3) := by decide +kernel
theorem dX8_mark_90 : decode cX8_mark 90 = .ok (.iload 5, 2) := by decide +kernel
theorem dX8_mark_92 : decode cX8_mark 92 = .ok (.invokevirtual 282, 3) := by decide +kernel
theorem dX8_mark_95 : decode cX8_mark 95 = .ok (.ireturn, 1) := by decide +kernel
theorem dX8_lines_0 : decode cX8_lines 0 = .ok (.iload_n 1, 1) := by decide +kernel
theorem dX8_lines_1 : decode cX8_lines 1 = .ok (.iload_n 2, 1) := by decide +kernel
theorem dX8_lines_2 : decode cX8_lines 2 = .ok (.iload_n 3, 1) := by decide +kernel
theorem dX8_lines_3 : decode cX8_lines 3 = .ok (.invokestatic 104, 3) := by decide +kernel
theorem dX8_lines_6 : decode cX8_lines 6 = .ok (.ifCond .ne 14, 3) := by decide +kernel
theorem dX8_lines_9 : decode cX8_lines 9 = .ok (.iload 4, 2) := by decide +kernel
theorem dX8_lines_11 : decode cX8_lines 11 = .ok (.iconst 0, 1) := by decide +kernel
theorem dX8_lines_12 : decode cX8_lines 12 = .ok (.bipush 7, 2) := by decide +kernel
theorem dX8_lines_14 : decode cX8_lines 14 = .ok (.invokestatic 90, 3) := by decide +kernel
theorem dX8_lines_17 : decode cX8_lines 17 = .ok (.ifCond .eq 5, 3) := by decide +kernel
theorem dX8_lines_20 : decode cX8_lines 20 = .ok (.iconst (-1), 1) := by decide +kernel
theorem dX8_lines_21 : decode cX8_lines 21 = .ok (.ireturn, 1) := by decide +kernel
theorem dX8_lines_22 : decode cX8_lines 22 = .ok (.aload_n 0, 1) := by decide +kernel
theorem dX8_lines_23 : decode cX8_lines 23 = .ok (.iload_n 1, 1) := by decide +kernel
theorem dX8_lines_24 : decode cX8_lines 24 = .ok (.iload_n 2, 1) := by decide +kernel
theorem dX8_lines_25 : decode cX8_lines 25 = .ok (.invokevirtual 263, 3) := by decide +kernel
theorem dX8_lines_28 : decode cX8_lines 28 = .ok (.ifCond .ne 9, 3) := by decide +kernel
theorem dX8_lines_31 : decode cX8_lines 31 = .ok (.aload_n 0, 1) := by decide +kernel
theorem dX8_lines_32 : decode cX8_lines 32 = .ok (.iconst 1, 1) := by decide +kernel
theorem dX8_lines_33 : decode cX8_lines 33 = .ok (.invokevirtual 150, 3) := by decide +kernel
theorem dX8_lines_36 : decode cX8_lines 36 = .ok (.ireturn, 1) := by decide +kernel
theorem dX8_lines_37 : decode cX8_lines 37 = .ok (.iconst 0, 1) := by decide +kernel
theorem dX8_lines_38 : decode cX8_lines 38 = .ok (.istore 5, 2) := by decide +kernel
theorem dX8_lines_40 : decode cX8_lines 40 = .ok (.bipush (-9), 2) := by decide +kernel
theorem dX8_lines_42 : decode cX8_lines 42 = .ok (.istore 6, 2) := by decide +kernel
theorem dX8_lines_44 : decode cX8_lines 44 = .ok (.bipush 99, 2) := by decide +kernel
theorem dX8_lines_46 : decode cX8_lines 46 = .ok (.istore 7, 2) := by decide +kernel
theorem dX8_lines_48 : decode cX8_lines 48 = .ok (.iload 7, 2) := by decide +kernel
theorem dX8_lines_50 : decode cX8_lines 50 = .ok (.ifCond .lt 38, 3) := by decide +kernel
theorem dX8_lines_53 : decode cX8_lines 53 = .ok (.aload_n 0, 1) := by decide +kernel
theorem dX8_lines_54 : decode cX8_lines 54 = .ok (.getfield 54, 3) := by decide +kernel
theorem dX8_lines_57 : decode cX8_lines 57 = .ok (.iload 7, 2) := by decide +kernel
theorem dX8_lines_59 : decode cX8_lines 59 = .ok (.iload_n 3, 1) := by decide +kernel
theorem dX8_lines_60 : decode cX8_lines 60 = .ok (.invokevirtual 266, 3) := by decide +kernel
theorem dX8_lines_63 : decode cX8_lines 63 = .ok (.aload_n 0, 1) := by decide +kernel
theorem dX8_lines_64 : decode cX8_lines 64 = .ok (.getfield 54, 3) := by decide +kernel
theorem dX8_lines_67 : decode cX8_lines 67 = .ok (.iload 4, 2) := by decide +kernel
theorem dX8_lines_69 : decode cX8_lines 69 = .ok (.invokevirtual 276, 3) := by decide +kernel
theorem dX8_lines_72 : decode cX8_lines 72 = .ok (.ifCond .eq 10, 3) := by decide +kernel
theorem dX8_lines_75 : decode cX8_lines 75 = .ok (.iinc 5 1, 3) := by decide +kernel
theorem dX8_lines_78 : decode cX8_lines 78 = .ok (.iload 7, 2) := by decide +kernel
theorem dX8_lines_80 : decode cX8_lines 80 = .ok (.istore 6, 2) := by decide +kernel
theorem dX8_lines_82 : decode cX8_lines 82 = .ok (.iinc 7 (-1), 3) := by decide +kernel
theorem dX8_lines_85 : decode cX8_lines 85 = .ok (.goto (-37), 3) := by decide +kernel
theorem dX8_lines_88 : decode cX8_lines 88 = .ok (.aload_n 0, 1) := by decide +kernel
theorem dX8_lines_89 : decode cX8_lines 89 = .ok (.iload 6, 2) := by decide +kernel
theorem dX8_lines_91 : decode cX8_lines 91 = .ok (.invokevirtual 167, 3) := by decide +kernel
theorem dX8_lines_94 : decode cX8_lines 94 = .ok (.pop, 1) := by decide +kernel
theorem dX8_lines_95 : decode cX8_lines 95 = .ok (.iload 5, 2) := by decide +kernel
theorem dX8_lines_97 : decode cX8_lines 97 = .ok (.ireturn, 1) := by decide +kernel
theorem dX8_begins_0 : decode cX8_begins 0 = .ok (.iload_n 1, 1) := by decide +kernel
theorem dX8_begins_1 : decode cX8_begins 1 = .ok (.iload_n 2, 1) := by decide +kernel
theorem dX8_begins_2 : decode cX8_begins 2 = .ok (.iload_n 3, 1) := by decide +kernel
theorem dX8_begins_3 : decode cX8_begins 3 = .ok (.iconst 0, 1) := by decide +kernel
theorem dX8_begins_4 : decode cX8_begins 4 = .ok (.invokestatic 229, 3) := by decide +kernel
theorem dX8_begins_7 : decode cX8_begins 7 = .ok (.ifCond .eq 5, 3) := by decide +kernel
theorem dX8_begins_10 : decode cX8_begins 10 = .ok (.iconst (-1), 1) := by decide +kernel
theorem dX8_begins_11 : decode cX8_begins 11 = .ok (.ireturn, 1) := by decide +kernel
theorem dX8_begins_12 : decode cX8_begins 12 = .ok (.aload_n 0, 1) := by decide +kernel
theorem dX8_begins_13 : decode cX8_begins 13 = .ok (.iload_n 1, 1) := by decide +kernel
theorem dX8_begins_14 : decode cX8_begins 14 = .ok (.iload_n 2, 1) := by decide +kernel
theorem dX8_begins_15 : decode cX8_begins 15 = .ok (.invokevirtual 263, 3) := by decide +kernel
theorem dX8_begins_18 : decode cX8_begins 18 = .ok (.ifCond .ne 9, 3) := by decide +kernel
theorem dX8_begins_21 : decode cX8_begins 21 = .ok (.aload_n 0, 1) := by decide +kernel
theorem dX8_begins_22 : decode cX8_begins 22 = .ok (.iconst 1, 1) := by decide +kernel
theorem dX8_begins_23 : decode cX8_begins 23 = .ok (.invokevirtual 150, 3) := by decide +kernel
theorem dX8_begins_26 : decode cX8_begins 26 = .ok (.ireturn, 1) := by decide +kernel
theorem dX8_begins_27 : decode cX8_begins 27 = .ok (.iconst 0, 1) := by decide +kernel
theorem dX8_begins_28 : decode cX8_begins 28 = .ok (.istore 4, 2) := by decide +kernel
theorem dX8_begins_30 : decode cX8_begins 30 = .ok (.bipush (-9), 2) := by decide +kernel
theorem dX8_begins_32 : decode cX8_begins 32 = .ok (.istore 5, 2) := by decide +kernel
theorem dX8_begins_34 : decode cX8_begins 34 = .ok (.bipush 99, 2) := by decide +kernel
theorem dX8_begins_36 : decode cX8_begins 36 = .ok (.istore 6, 2) := by decide +kernel
theorem dX8_begins_38 : decode cX8_begins 38 = .ok (.iload 6, 2) := by decide +kernel
theorem dX8_begins_40 : decode cX8_begins 40 = .ok (.ifCond .lt 29, 3) := by decide +kernel
theorem dX8_begins_43 : decode cX8_begins 43 = .ok (.aload_n 0, 1) := by decide +kernel
theorem dX8_begins_44 : decode cX8_begins 44 = .ok (.getfield 54, 3) := by decide +kernel
theorem dX8_begins_47 : decode cX8_begins 47 = .ok (.iload_n 3, 1) := by decide +kernel
theorem dX8_begins_48 : decode cX8_begins 48 = .ok (.iload 6, 2) := by decide +kernel
theorem dX8_begins_50 : decode cX8_begins 50 = .ok (.invokevirtual 285, 3) := by decide +kernel
theorem dX8_begins_53 : decode cX8_begins 53 = .ok (.ifCond .eq 10, 3) := by decide +kernel
theorem dX8_begins_56 : decode cX8_begins 56 = .ok (.iinc 4 1, 3) := by decide +kernel
theorem dX8_begins_59 : decode cX8_begins 59 = .ok (.iload 6, 2) := by decide +kernel
theorem dX8_begins_61 : decode cX8_begins 61 = .ok (.istore 5, 2) := by decide +kernel
theorem dX8_begins_63 : decode cX8_begins 63 = .ok (.iinc 6 (-1), 3) := by decide +kernel
theorem dX8_begins_66 : decode cX8_begins 66 = .ok (.goto (-28), 3) := by decide +kernel
theorem dX8_begins_69 : decode cX8_begins 69 = .ok (.aload_n 0, 1) := by decide +kernel
theorem dX8_begins_70 : decode cX8_begins 70 = .ok (.iload 5, 2) := by decide +kernel
theorem dX8_begins_72 : decode cX8_begins 72 = .ok (.invokevirtual 167, 3) := by decide +kernel
theorem dX8_begins_75 : decode cX8_begins 75 = .ok (.pop, 1) := by decide +kernel
theorem dX8_begins_76 : decode cX8_begins 76 = .ok (.iload 4, 2) := by decide +kernel
theorem dX8_begins_78 : decode cX8_begins 78 = .ok (.ireturn, 1) := by decide +kernel
theorem dX8_mends_0 : decode cX8_mends 0 = .ok (.iload_n 1, 1) := by decide +kernel
theorem dX8_mends_1 : decode cX8_mends 1 = .ok (.iload_n 2, 1) := by decide +kernel
theorem dX8_mends_2 : decode cX8_mends 2 = .ok (.iload_n 3, 1) := by decide +kernel
theorem dX8_mends_3 : decode cX8_mends 3 = .ok (.iload 4, 2) := by decide +kernel
theorem dX8_mends_5 : decode cX8_mends 5 = .ok (.invokestatic 229, 3) := by decide +kernel
theorem dX8_mends_8 : decode cX8_mends 8 = .ok (.ifCond .ne 14, 3) := by decide +kernel
theorem dX8_mends_11 : decode cX8_mends 11 = .ok (.iload 5, 2) := by decide +kernel
theorem dX8_mends_13 : decode cX8_mends 13 = .ok (.iconst 1, 1) := by decide +kernel
theorem dX8_mends_14 : decode cX8_mends 14 = .ok (.bipush 20, 2) := by decide +kernel
theorem dX8_mends_16 : decode cX8_mends 16 = .ok (.invokestatic 90, 3) := by decide +kernel
theorem dX8_mends_19 : decode cX8_mends 19 = .ok (.ifCond .eq 5, 3) := by decide +kernel
theorem dX8_mends_22 : decode cX8_mends 22 = .ok (.iconst (-1), 1) := by decide +kernel
theorem dX8_mends_23 : decode cX8_mends 23 = .ok (.ireturn, 1) := by decide +kernel
theorem dX8_mends_24 : decode cX8_mends 24 = .ok (.aload_n 0, 1) := by decide +kernel
theorem dX8_mends_25 : decode cX8_mends 25 = .ok (.iload_n 1, 1) := by decide +kernel
theorem dX8_mends_26 : decode cX8_mends 26 = .ok (.iload_n 2, 1) := by decide +kernel
theorem dX8_mends_27 : decode cX8_mends 27 = .ok (.invokevirtual 263, 3) := by decide +kernel
theorem dX8_mends_30 : decode cX8_mends 30 = .ok (.ifCond .ne 9, 3) := by decide +kernel
theorem dX8_mends_33 : decode cX8_mends 33 = .ok (.aload_n 0, 1) := by decide +kernel
theorem dX8_mends_34 : decode cX8_mends 34 = .ok (.iconst 1, 1) := by decide +kernel
theorem dX8_mends_35 : decode cX8_mends 35 = .ok (.invokevirtual 150, 3) := by decide +kernel
theorem dX8_mends_38 : decode cX8_mends 38 = .ok (.ireturn, 1) := by decide +kernel
theorem dX8_mends_39 : decode cX8_mends 39 = .ok (.aload_n 0, 1) := by decide +kernel
theorem dX8_mends_40 : decode cX8_mends 40 = .ok (.getfield 54, 3) := by decide +kernel
theorem dX8_mends_43 : decode cX8_mends 43 = .ok (.iload_n 3, 1) := by decide +kernel
theorem dX8_mends_44 : decode cX8_mends 44 = .ok (.iload 4, 2) := by decide +kernel
theorem dX8_mends_46 : decode cX8_mends 46 = .ok (.invokevirtual 285, 3) := by decide +kernel
theorem dX8_mends_49 : decode cX8_mends 49 = .ok (.ifCond .ne 9, 3) := by decide +kernel
theorem dX8_mends_52 : decode cX8_mends 52 = .ok (.aload_n 0, 1) := by decide +kernel
theorem dX8_mends_53 : decode cX8_mends 53 = .ok (.iconst 3, 1) := by decide +kernel
theorem dX8_mends_54 : decode cX8_mends 54 = .ok (.invokevirtual 150, 3) := by decide +kernel
theorem dX8_mends_57 : decode cX8_mends 57 = .ok (.ireturn, 1) := by decide +kernel
theorem dX8_mends_58 : decode cX8_mends 58 = .ok (.aload_n 0, 1) := by decide +kernel
theorem dX8_mends_59 : decode cX8_mends 59 = .ok (.getfield 54, 3) := by decide +kernel
theorem dX8_mends_62 : decode cX8_mends 62 = .ok (.getfield 115, 3) := by decide +kernel
theorem dX8_mends_65 : decode cX8_mends 65 = .ok (.astore 6, 2) := by decide +kernel
theorem dX8_mends_67 : decode cX8_mends 67 = .ok (.aload_n 0, 1) := by decide +kernel
theorem dX8_mends_68 : decode cX8_mends 68 = .ok (.getfield 54, 3) := by decide +kernel
theorem dX8_mends_71 : decode cX8_mends 71 = .ok (.getfield 288, 3) := by decide +kernel
theorem dX8_mends_74 : decode cX8_mends 74 = .ok (.istore 7, 2) := by decide +kernel
theorem dX8_mends_76 : decode cX8_mends 76 = .ok (.aload 6, 2) := by decide +kernel
theorem dX8_mends_78 : decode cX8_mends 78 = .ok (.iload_n 3, 1) := by decide +kernel
theorem dX8_mends_79 : decode cX8_mends 79 = .ok (.iload 7, 2) := by decide +kernel
theorem dX8_mends_81 : decode cX8_mends 81 = .ok (.iload 5, 2) := by decide +kernel
theorem dX8_mends_83 : decode cX8_mends 83 = .ok (.iadd, 1) := by decide +kernel
theorem dX8_mends_84 : decode cX8_mends 84 = .ok (.iconst 0, 1) := by decide +kernel
theorem dX8_mends_85 : decode cX8_mends 85 = .ok (.invokevirtual 233, 3) := by decide +kernel
theorem dX8_mends_88 : decode cX8_mends 88 = .ok (.iconst 1, 1) := by decide +kernel
theorem dX8_mends_89 : decode cX8_mends 89 = .ok (.istore 8, 2) := by decide +kernel
theorem dX8_mends_91 : decode cX8_mends 91 = .ok (.iload 8, 2) := by decide +kernel
theorem dX8_mends_93 : decode cX8_mends 93 = .ok (.sipush 400, 3) := by decide +kernel
theorem dX8_mends_96 : decode cX8_mends 96 = .ok (.if_icmp .gt 30, 3) := by decide +kernel
theorem dX8_mends_99 : decode cX8_mends 99 = .ok (.aload 6, 2) := by decide +kernel
theorem dX8_mends_101 : decode cX8_mends 101 = .ok (.invokevirtual 248, 3) := by decide +kernel
theorem dX8_mends_104 : decode cX8_mends 104 = .ok (.ifCond .eq 22, 3) := by decide +kernel
theorem dX8_mends_107 : decode cX8_mends 107 = .ok (.aload 6, 2) := by decide +kernel
theorem dX8_mends_109 : decode cX8_mends 109 = .ok (.getfield 251, 3) := by decide +kernel
theorem dX8_mends_112 : decode cX8_mends 112 = .ok (.iload 7, 2) := by decide +kernel
theorem dX8_mends_114 : decode cX8_mends 114 = .ok (.if_icmp .ne 6, 3) := by decide +kernel
theorem dX8_mends_117 : decode cX8_mends 117 = .ok (.iload 8, 2) := by decide +kernel
theorem dX8_mends_119 : decode cX8_mends 119 = .ok (.ireturn, 1) := by decide +kernel
theorem dX8_mends_120 : decode cX8_mends 120 = .ok (.iinc 8 1, 3) := by decide +kernel
theorem dX8_mends_123 : decode cX8_mends 123 = .ok (.goto (-32), 3) := by decide +kernel
theorem dX8_mends_126 : decode cX8_mends 126 = .ok (.bipush (-9), 2) := by decide +kernel
theorem dX8_mends_128 : decode cX8_mends 128 = .ok (.ireturn, 1) := by decide +kernel
theorem dX8_wide_0 : decode cX8_wide 0 = .ok (.iload_n 1, 1) := by decide +kernel
theorem dX8_wide_1 : decode cX8_wide 1 = .ok (.iload_n 2, 1) := by decide +kernel
theorem dX8_wide_2 : decode cX8_wide 2 = .ok (.iload_n 3, 1) := by decide +kernel
theorem dX8_wide_3 : decode cX8_wide 3 = .ok (.invokestatic 104, 3) := by decide +kernel
theorem dX8_wide_6 : decode cX8_wide 6 = .ok (.ifCond .eq 5, 3) := by decide +kernel
theorem dX8_wide_9 : decode cX8_wide 9 = .ok (.iconst (-1), 1) := by decide +kernel
theorem dX8_wide_10 : decode cX8_wide 10 = .ok (.ireturn, 1) := by decide +kernel
theorem dX8_wide_11 : decode cX8_wide 11 = .ok (.aload_n 0, 1) := by decide +kernel
theorem dX8_wide_12 : decode cX8_wide 12 = .ok (.iload_n 1, 1) := by decide +kernel
theorem dX8_wide_13 : decode cX8_wide 13 = .ok (.iload_n 2, 1) := by decide +kernel
theorem dX8_wide_14 : decode cX8_wide 14 = .ok (.invokevirtual 263, 3) := by decide +kernel
theorem dX8_wide_17 : decode cX8_wide 17 = .ok (.ifCond .ne 9, 3) := by decide +kernel
theorem dX8_wide_20 : decode cX8_wide 20 = .ok (.aload_n 0, 1) := by decide +kernel
theorem dX8_wide_21 : decode cX8_wide 21 = .ok (.iconst 1, 1) := by decide +kernel
theorem dX8_wide_22 : decode cX8_wide 22 = .ok (.invokevirtual 150, 3) := by decide +kernel
theorem dX8_wide_25 : decode cX8_wide 25 = .ok (.ireturn, 1) := by decide +kernel
theorem dX8_wide_26 : decode cX8_wide 26 = .ok (.iconst (-1), 1) := by decide +kernel
theorem dX8_wide_27 : decode cX8_wide 27 = .ok (.istore 4, 2) := by decide +kernel
theorem dX8_wide_29 : decode cX8_wide 29 = .ok (.iconst 0, 1) := by decide +kernel
theorem dX8_wide_30 : decode cX8_wide 30 = .ok (.istore 5, 2) := by decide +kernel
theorem dX8_wide_32 : decode cX8_wide 32 = .ok (.iconst 1, 1) := by decide +kernel
theorem dX8_wide_33 : decode cX8_wide 33 = .ok (.istore 6, 2) := by decide +kernel
theorem dX8_wide_35 : decode cX8_wide 35 = .ok (.iload 6, 2) := by decide +kernel
theorem dX8_wide_37 : decode cX8_wide 37 = .ok (.bipush 9, 2) := by decide +kernel
theorem dX8_wide_39 : decode cX8_wide 39 = .ok (.if_icmp .gt 90, 3) := by decide +kernel
theorem dX8_wide_42 : decode cX8_wide 42 = .ok (.iconst 1, 1) := by decide +kernel
theorem dX8_wide_43 : decode cX8_wide 43 = .ok (.istore 7, 2) := by decide +kernel
theorem dX8_wide_45 : decode cX8_wide 45 = .ok (.iload 7, 2) := by decide +kernel
theorem dX8_wide_47 : decode cX8_wide 47 = .ok (.bipush 9, 2) := by decide +kernel
theorem dX8_wide_49 : decode cX8_wide 49 = .ok (.if_icmp .gt 74, 3) := by decide +kernel
theorem dX8_wide_52 : decode cX8_wide 52 = .ok (.aload_n 0, 1) := by decide +kernel
theorem dX8_wide_53 : decode cX8_wide 53 = .ok (.getfield 54, 3) := by decide +kernel
theorem dX8_wide_56 : decode cX8_wide 56 = .ok (.getfield 115, 3) := by decide +kernel
theorem dX8_wide_59 : decode cX8_wide 59 = .ok (.getfield 116, 3) := by decide +kernel
theorem dX8_wide_62 : decode cX8_wide 62 = .ok (.getfield 226, 3) := by decide +kernel
theorem dX8_wide_65 : decode cX8_wide 65 = .ok (.iconst 1, 1) := by decide +kernel
theorem dX8_wide_66 : decode cX8_wide 66 = .ok (.iload 6, 2) := by decide +kernel
theorem dX8_wide_68 : decode cX8_wide 68 = .ok (.iastore, 1) := by decide +kernel
theorem dX8_wide_69 : decode cX8_wide 69 = .ok (.aload_n 0, 1) := by decide +kernel
theorem dX8_wide_70 : decode cX8_wide 70 = .ok (.getfield 54, 3) := by decide +kernel
theorem dX8_wide_73 : decode cX8_wide 73 = .ok (.getfield 115, 3) := by decide +kernel
theorem dX8_wide_76 : decode cX8_wide 76 = .ok (.getfield 116, 3) := by decide +kernel
theorem dX8_wide_79 : decode cX8_wide 79 = .ok (.getfield 226, 3) := by decide +kernel
theorem dX8_wide_82 : decode cX8_wide 82 = .ok (.iconst 2, 1) := by decide +kernel
theorem dX8_wide_83 : decode cX8_wide 83 = .ok (.iload 7, 2) := by decide +kernel
theorem dX8_wide_85 : decode cX8_wide 85 = .ok (.iastore, 1) := by decide +kernel
theorem dX8_wide_86 : decode cX8_wide 86 = .ok (.aload_n 0, 1) := by decide +kernel
theorem dX8_wide_87 : decode cX8_wide 87 = .ok (.getfield 54, 3) := by decide +kernel
theorem dX8_wide_90 : decode cX8_wide 90 = .ok (.iload_n 3, 1) := by decide +kernel
theorem dX8_wide_91 : decode cX8_wide 91 = .ok (.invokevirtual 291, 3) := by decide +kernel
theorem dX8_wide_94 : decode cX8_wide 94 = .ok (.istore 8, 2) := by decide +kernel
theorem dX8_wide_96 : decode cX8_wide 96 = .ok (.iload 8, 2) := by decide +kernel
theorem dX8_wide_98 : decode cX8_wide 98 = .ok (.iload 4, 2) := by decide +kernel
theorem dX8_wide_100 : decode cX8_wide 100 = .ok (.if_icmp .le 17, 3) := by decide +kernel
theorem dX8_wide_103 : decode cX8_wide 103 = .ok (.iload 8, 2) := by decide +kernel
theorem dX8_wide_105 : decode cX8_wide 105 = .ok (.istore 4, 2) := by decide +kernel
theorem dX8_wide_107 : decode cX8_wide 107 = .ok (.bipush 10, 2) := by decide +kernel
theorem dX8_wide_109 : decode cX8_wide 109 = .ok (.iload 6, 2) := by decide +kernel
theorem dX8_wide_111 : decode cX8_wide 111 = .ok (.imul, 1) := by decide +kernel
theorem dX8_wide_112 : decode cX8_wide 112 = .ok (.iload 7, 2) := by decide +kernel
theorem dX8_wide_114 : decode cX8_wide 114 = .ok (.iadd, 1) := by decide +kernel
theorem dX8_wide_115 : decode cX8_wide 115 = .ok (.istore 5, 2) := by decide +kernel
theorem dX8_wide_117 : decode cX8_wide 117 = .ok (.iinc 7 1, 3) := by decide +kernel
theorem dX8_wide_120 : decode cX8_wide 120 = .ok (.goto (-75), 3) := by decide +kernel
theorem dX8_wide_123 : decode cX8_wide 123 = .ok (.iinc 6 1, 3) := by decide +kernel
theorem dX8_wide_126 : decode cX8_wide 126 = .ok (.goto (-91), 3) := by decide +kernel
theorem dX8_wide_129 : decode cX8_wide 129 = .ok (.aload_n 0, 1) := by decide +kernel
theorem dX8_wide_130 : decode cX8_wide 130 = .ok (.iload 4, 2) := by decide +kernel
theorem dX8_wide_132 : decode cX8_wide 132 = .ok (.invokevirtual 167, 3) := by decide +kernel
theorem dX8_wide_135 : decode cX8_wide 135 = .ok (.pop, 1) := by decide +kernel
theorem dX8_wide_136 : decode cX8_wide 136 = .ok (.iload 5, 2) := by decide +kernel
theorem dX8_wide_138 : decode cX8_wide 138 = .ok (.ireturn, 1) := by decide +kernel
theorem dX8_mend_0 : decode cX8_mend 0 = .ok (.iload_n 1, 1) := by decide +kernel
theorem dX8_mend_1 : decode cX8_mend 1 = .ok (.iload_n 2, 1) := by decide +kernel
theorem dX8_mend_2 : decode cX8_mend 2 = .ok (.iload_n 3, 1) := by decide +kernel
theorem dX8_mend_3 : decode cX8_mend 3 = .ok (.iload 4, 2) := by decide +kernel
theorem dX8_mend_5 : decode cX8_mend 5 = .ok (.invokestatic 229, 3) := by decide +kernel
theorem dX8_mend_8 : decode cX8_mend 8 = .ok (.ifCond .eq 5, 3) := by decide +kernel
theorem dX8_mend_11 : decode cX8_mend 11 = .ok (.iconst (-1), 1) := by decide +kernel
theorem dX8_mend_12 : decode cX8_mend 12 = .ok (.ireturn, 1) := by decide +kernel
theorem dX8_mend_13 : decode cX8_mend 13 = .ok (.aload_n 0, 1) := by decide +kernel
theorem dX8_mend_14 : decode cX8_mend 14 = .ok (.iload_n 1, 1) := by decide +kernel
theorem dX8_mend_15 : decode cX8_mend 15 = .ok (.iload_n 2, 1) := by decide +kernel
theorem dX8_mend_16 : decode cX8_mend 16 = .ok (.invokevirtual 263, 3) := by decide +kernel
theorem dX8_mend_19 : decode cX8_mend 19 = .ok (.ifCond .ne 9, 3) := by decide +kernel
theorem dX8_mend_22 : decode cX8_mend 22 = .ok (.aload_n 0, 1) := by decide +kernel
theorem dX8_mend_23 : decode cX8_mend 23 = .ok (.iconst 1, 1) := by decide +kernel
theorem dX8_mend_24 : decode cX8_mend 24 = .ok (.invokevirtual 150, 3) := by decide +kernel
theorem dX8_mend_27 : decode cX8_mend 27 = .ok (.ireturn, 1) := by decide +kernel
theorem dX8_mend_28 : decode cX8_mend 28 = .ok (.iconst 0, 1) := by decide +kernel
theorem dX8_mend_29 : decode cX8_mend 29 = .ok (.istore 5, 2) := by decide +kernel
theorem dX8_mend_31 : decode cX8_mend 31 = .ok (.iload 5, 2) := by decide +kernel
theorem dX8_mend_33 : decode cX8_mend 33 = .ok (.bipush 18, 2) := by decide +kernel
theorem dX8_mend_35 : decode cX8_mend 35 = .ok (.if_icmp .gt 112, 3) := by decide +kernel
theorem dX8_mend_38 : decode cX8_mend 38 = .ok (.iconst 0, 1) := by decide +kernel
theorem dX8_mend_39 : decode cX8_mend 39 = .ok (.iload 5, 2) := by decide +kernel
theorem dX8_mend_41 : decode cX8_mend 41 = .ok (.bipush 9, 2) := by decide +kernel
theorem dX8_mend_43 : decode cX8_mend 43 = .ok (.isub, 1) := by decide +kernel
theorem dX8_mend_44 : decode cX8_mend 44 = .ok (.invokestatic 138, 3) := by decide +kernel
theorem dX8_mend_47 : decode cX8_mend 47 = .ok (.istore 6, 2) := by decide +kernel
theorem dX8_mend_49 : decode cX8_mend 49 = .ok (.iload 6, 2) := by decide +kernel
theorem dX8_mend_51 : decode cX8_mend 51 = .ok (.bipush 9, 2) := by decide +kernel
theorem dX8_mend_53 : decode cX8_mend 53 = .ok (.iload 5, 2) := by decide +kernel
theorem dX8_mend_55 : decode cX8_mend 55 = .ok (.invokestatic 294, 3) := by decide +kernel
theorem dX8_mend_58 : decode cX8_mend 58 = .ok (.if_icmp .gt 83, 3) := by decide +kernel
theorem dX8_mend_61 : decode cX8_mend 61 = .ok (.aload_n 0, 1) := by decide +kernel
theorem dX8_mend_62 : decode cX8_mend 62 = .ok (.getfield 54, 3) := by decide +kernel
theorem dX8_mend_65 : decode cX8_mend 65 = .ok (.getfield 115, 3) := by decide +kernel
theorem dX8_mend_68 : decode cX8_mend 68 = .ok (.getfield 116, 3) := by decide +kernel
theorem dX8_mend_71 : decode cX8_mend 71 = .ok (.getfield 226, 3) := by decide +kernel
theorem dX8_mend_74 : decode cX8_mend 74 = .ok (.iconst 4, 1) := by decide +kernel
theorem dX8_mend_75 : decode cX8_mend 75 = .ok (.iload 6, 2) := by decide +kernel
theorem dX8_mend_77 : decode cX8_mend 77 = .ok (.iastore, 1) := by decide +kernel
theorem dX8_mend_78 : decode cX8_mend 78 = .ok (.aload_n 0, 1) := by decide +kernel
theorem dX8_mend_79 : decode cX8_mend 79 = .ok (.getfield 54, 3) := by decide +kernel
theorem dX8_mend_82 : decode cX8_mend 82 = .ok (.getfield 115, 3) := by decide +kernel
theorem dX8_mend_85 : decode cX8_mend 85 = .ok (.getfield 116, 3) := by decide +kernel
theorem dX8_mend_88 : decode cX8_mend 88 = .ok (.getfield 226, 3) := by decide +kernel
theorem dX8_mend_91 : decode cX8_mend 91 = .ok (.iconst 5, 1) := by decide +kernel
theorem dX8_mend_92 : decode cX8_mend 92 = .ok (.iload 5, 2) := by decide +kernel
theorem dX8_mend_94 : decode cX8_mend 94 = .ok (.iload 6, 2) := by decide +kernel
theorem dX8_mend_96 : decode cX8_mend 96 = .ok (.isub, 1) := by decide +kernel
theorem dX8_mend_97 : decode cX8_mend 97 = .ok (.iastore, 1) := by decide +kernel
theorem dX8_mend_98 : decode cX8_mend 98 = .ok (.aload_n 0, 1) := by decide +kernel
theorem dX8_mend_99 : decode cX8_mend 99 = .ok (.getfield 54, 3) := by decide +kernel
theorem dX8_mend_102 : decode cX8_mend 102 = .ok (.iload_n 3, 1) := by decide +kernel
theorem dX8_mend_103 : decode cX8_mend 103 = .ok (.iload 4, 2) := by decide +kernel
theorem dX8_mend_105 : decode cX8_mend 105 = .ok (.invokevirtual 285, 3) := by decide +kernel
theorem dX8_mend_108 : decode cX8_mend 108 = .ok (.ifCond .eq 27, 3) := by decide +kernel
theorem dX8_mend_111 : decode cX8_mend 111 = .ok (.aload_n 0, 1) := by decide +kernel
theorem dX8_mend_112 : decode cX8_mend 112 = .ok (.aload_n 0, 1) := by decide +kernel
theorem dX8_mend_113 : decode cX8_mend 113 = .ok (.getfield 54, 3) := by decide +kernel
theorem dX8_mend_116 : decode cX8_mend 116 = .ok (.getfield 288, 3) := by decide +kernel
theorem dX8_mend_119 : decode cX8_mend 119 = .ok (.invokevirtual 167, 3) := by decide +kernel
theorem dX8_mend_122 : decode cX8_mend 122 = .ok (.pop, 1) := by decide +kernel
theorem dX8_mend_123 : decode cX8_mend 123 = .ok (.bipush 10, 2) := by decide +kernel
theorem dX8_mend_125 : decode cX8_mend 125 = .ok (.iload 6, 2) := by decide +kernel
theorem dX8_mend_127 : decode cX8_mend 127 = .ok (.imul, 1) := by decide +kernel
theorem dX8_mend_128 : decode cX8_mend 128 = .ok (.iload 5, 2) := by decide +kernel
theorem dX8_mend_130 : decode cX8_mend 130 = .ok (.iadd, 1) := by decide +kernel
theorem dX8_mend_131 : decode cX8_mend 131 = .ok (.iload 6, 2) := by decide +kernel
theorem dX8_mend_133 : decode cX8_mend 133 = .ok (.isub, 1) := by decide +kernel
theorem dX8_mend_134 : decode cX8_mend 134 = .ok (.ireturn, 1) := by decide +kernel
theorem dX8_mend_135 : decode cX8_mend 135 = .ok (.iinc 6 1, 3) := by decide +kernel
theorem dX8_mend_138 : decode cX8_mend 138 = .ok (.goto (-89), 3) := by decide +kernel
theorem dX8_mend_141 : decode cX8_mend 141 = .ok (.iinc 5 1, 3) := by decide +kernel
theorem dX8_mend_144 : decode cX8_mend 144 = .ok (.goto (-113), 3) := by decide +kernel
theorem dX8_mend_147 : decode cX8_mend 147 = .ok (.bipush (-9), 2) := by decide +kernel
theorem dX8_mend_149 : decode cX8_mend 149 = .ok (.ireturn, 1) := by decide +kernel
theorem dX8_limp_0 : decode cX8_limp 0 = .ok (.aload_n 0, 1) := by decide +kernel
theorem dX8_limp_1 : decode cX8_limp 1 = .ok (.iload_n 1, 1) := by decide +kernel
theorem dX8_limp_2 : decode cX8_limp 2 = .ok (.iload_n 2, 1) := by decide +kernel
theorem dX8_limp_3 : decode cX8_limp 3 = .ok (.iload_n 3, 1) := by decide +kernel
theorem dX8_limp_4 : decode cX8_limp 4 = .ok (.invokevirtual 297, 3) := by decide +kernel
theorem dX8_limp_7 : decode cX8_limp 7 = .ok (.istore 4, 2) := by decide +kernel
theorem dX8_limp_9 : decode cX8_limp 9 = .ok (.iload 4, 2) := by decide +kernel
theorem dX8_limp_11 : decode cX8_limp 11 = .ok (.ifCond .eq 6, 3) := by decide +kernel
theorem dX8_limp_14 : decode cX8_limp 14 = .ok (.iload 4, 2) := by decide +kernel
theorem dX8_limp_16 : decode cX8_limp 16 = .ok (.ireturn, 1) := by decide +kernel
theorem dX8_limp_17 : decode cX8_limp 17 = .ok (.aload_n 0, 1) := by decide +kernel
theorem dX8_limp_18 : decode cX8_limp 18 = .ok (.getfield 64, 3) := by decide +kernel
theorem dX8_limp_21 : decode cX8_limp 21 = .ok (.aload_n 0, 1) := by decide +kernel
theorem dX8_limp_22 : decode cX8_limp 22 = .ok (.getfield 54, 3) := by decide +kernel
theorem dX8_limp_25 : decode cX8_limp 25 = .ok (.getfield 115, 3) := by decide +kernel
theorem dX8_limp_28 : decode cX8_limp 28 = .ok (.aload_n 0, 1) := by decide +kernel
theorem dX8_limp_29 : decode cX8_limp 29 = .ok (.getfield 11, 3) := by decide +kernel
theorem dX8_limp_32 : decode cX8_limp 32 = .ok (.iload_n 3, 1) := by decide +kernel
theorem dX8_limp_33 : decode cX8_limp 33 = .ok (.aaload, 1) := by decide +kernel
theorem dX8_limp_34 : decode cX8_limp 34 = .ok (.invokevirtual 301, 3) := by decide +kernel
theorem dX8_limp_37 : decode cX8_limp 37 = .ok (.aload_n 0, 1) := by decide +kernel
theorem dX8_limp_38 : decode cX8_limp 38 = .ok (.aload_n 0, 1) := by decide +kernel
theorem dX8_limp_39 : decode cX8_limp 39 = .ok (.getfield 64, 3) := by decide +kernel
theorem dX8_limp_42 : decode cX8_limp 42 = .ok (.getfield 305, 3) := by decide +kernel
theorem dX8_limp_45 : decode cX8_limp 45 = .ok (.invokevirtual 167, 3) := by decide +kernel
theorem dX8_limp_48 : decode cX8_limp 48 = .ok (.pop, 1) := by decide +kernel
theorem dX8_limp_49 : decode cX8_limp 49 = .ok (.aload_n 0, 1) := by decide +kernel
theorem dX8_limp_50 : decode cX8_limp 50 = .ok (.getfield 64, 3) := by decide +kernel
theorem dX8_limp_53 : decode cX8_limp 53 = .ok (.getfield 306, 3) := by decide +kernel
theorem dX8_limp_56 : decode cX8_limp 56 = .ok (.ireturn, 1) := by decide +kernel
theorem dX8_odds_0 : decode cX8_odds 0 = .ok (.aload_n 0, 1) := by decide +kernel
theorem dX8_odds_1 : decode cX8_odds 1 = .ok (.iload_n 1, 1) := by decide +kernel
theorem dX8_odds_2 : decode cX8_odds 2 = .ok (.iload_n 2, 1) := by decide +kernel
theorem dX8_odds_3 : decode cX8_odds 3 = .ok (.iload_n 3, 1) := by decide +kernel
theorem dX8_odds_4 : decode cX8_odds 4 = .ok (.invokevirtual 297, 3) := by decide +kernel
theorem dX8_odds_7 : decode cX8_odds 7 = .ok (.istore 4, 2) := by decide +kernel
theorem dX8_odds_9 : decode cX8_odds 9 = .ok (.iload 4, 2) := by decide +kernel
theorem dX8_odds_11 : decode cX8_odds 11 = .ok (.ifCond .eq 6, 3) := by decide +kernel
theorem dX8_odds_14 : decode cX8_odds 14 = .ok (.iload 4, 2) := by decide +kernel
theorem dX8_odds_16 : decode cX8_odds 16 = .ok (.ireturn, 1) := by decide +kernel
theorem dX8_odds_17 : decode cX8_odds 17 = .ok (.aload_n 0, 1) := by decide +kernel
theorem dX8_odds_18 : decode cX8_odds 18 = .ok (.getfield 64, 3) := by decide +kernel
theorem dX8_odds_21 : decode cX8_odds 21 = .ok (.aload_n 0, 1) := by decide +kernel
theorem dX8_odds_22 : decode cX8_odds 22 = .ok (.getfield 54, 3) := by decide +kernel
theorem dX8_odds_25 : decode cX8_odds 25 = .ok (.getfield 115, 3) := by decide +kernel
theorem dX8_odds_28 : decode cX8_odds 28 = .ok (.aload_n 0, 1) := by decide +kernel
theorem dX8_odds_29 : decode cX8_odds 29 = .ok (.getfield 11, 3) := by decide +kernel
theorem dX8_odds_32 : decode cX8_odds 32 = .ok (.iload_n 3, 1) := by decide +kernel
theorem dX8_odds_33 : decode cX8_odds 33 = .ok (.aaload, 1) := by decide +kernel
theorem dX8_odds_34 : decode cX8_odds 34 = .ok (.invokevirtual 301, 3) := by decide +kernel
theorem dX8_odds_37 : decode cX8_odds 37 = .ok (.aload_n 0, 1) := by decide +kernel
theorem dX8_odds_38 : decode cX8_odds 38 = .ok (.aload_n 0, 1) := by decide +kernel
theorem dX8_odds_39 : decode cX8_odds 39 = .ok (.getfield 64, 3) := by decide +kernel
theorem dX8_odds_42 : decode cX8_odds 42 = .ok (.getfield 309, 3) := by decide +kernel
theorem dX8_odds_45 : decode cX8_odds 45 = .ok (.aload_n 0, 1) := by decide +kernel
theorem dX8_odds_46 : decode cX8_odds 46 = .ok (.getfield 64, 3) := by decide +kernel
theorem dX8_odds_49 : decode cX8_odds 49 = .ok (.getfield 312, 3) := by decide +kernel
theorem dX8_odds_52 : decode cX8_odds 52 = .ok (.invokevirtual 315, 3) := by decide +kernel
theorem dX8_odds_55 : decode cX8_odds 55 = .ok (.aload_n 0, 1) := by decide +kernel
theorem dX8_odds_56 : decode cX8_odds 56 = .ok (.getfield 64, 3) := by decide +kernel
theorem dX8_odds_59 : decode cX8_odds 59 = .ok (.getfield 312, 3) := by decide +kernel
theorem dX8_odds_62 : decode cX8_odds 62 = .ok (.ireturn, 1) := by decide +kernel
theorem dX8_refusalOfTocks_0 : decode cX8_refusalOfTocks 0 = .ok (.iload_n 1, 1) := by decide +kernel
theorem dX8_refusalOfTocks_1 : decode cX8_refusalOfTocks 1 = .ok (.invokestatic 94, 3) := by decide +kernel
theorem dX8_refusalOfTocks_4 : decode cX8_refusalOfTocks 4 = .ok (.ifCond .ne 17, 3) := by decide +kernel
theorem dX8_refusalOfTocks_7 : decode cX8_refusalOfTocks 7 = .ok (.iload_n 2, 1) := by decide +kernel
theorem dX8_refusalOfTocks_8 : decode cX8_refusalOfTocks 8 = .ok (.invokestatic 98, 3) := by decide +kernel
theorem dX8_refusalOfTocks_11 : decode cX8_refusalOfTocks 11 = .ok (.ifCond .ne 10, 3) := by decide +kernel
theorem dX8_refusalOfTocks_14 : decode cX8_refusalOfTocks 14 = .ok (.iload_n 3, 1) := by decide +kernel
theorem dX8_refusalOfTocks_15 : decode cX8_refusalOfTocks 15 = .ok (.invokestatic 147, 3) := by decide +kernel
theorem dX8_refusalOfTocks_18 : decode cX8_refusalOfTocks 18 = .ok (.ifCond .eq 5, 3) := by decide +kernel
theorem dX8_refusalOfTocks_21 : decode cX8_refusalOfTocks 21 = .ok (.iconst (-1), 1) := by decide +kernel
theorem dX8_refusalOfTocks_22 : decode cX8_refusalOfTocks 22 = .ok (.ireturn, 1) := by decide +kernel
theorem dX8_refusalOfTocks_23 : decode cX8_refusalOfTocks 23 = .ok (.aload_n 0, 1) := by decide +kernel
theorem dX8_refusalOfTocks_24 : decode cX8_refusalOfTocks 24 = .ok (.getfield 11, 3) := by decide +kernel
theorem dX8_refusalOfTocks_27 : decode cX8_refusalOfTocks 27 = .ok (.iload_n 3, 1) := by decide +kernel
theorem dX8_refusalOfTocks_28 : decode cX8_refusalOfTocks 28 = .ok (.aaload, 1) := by decide +kernel
theorem dX8_refusalOfTocks_29 : decode cX8_refusalOfTocks 29 = .ok (.invokevirtual 157, 3) := by decide +kernel
theorem dX8_refusalOfTocks_32 : decode cX8_refusalOfTocks 32 = .ok (.ifCond .ne 12, 3) := by decide +kernel
theorem dX8_refusalOfTocks_35 : decode cX8_refusalOfTocks 35 = .ok (.aload_n 0, 1) := by decide +kernel
theorem dX8_refusalOfTocks_36 : decode cX8_refusalOfTocks 36 = .ok (.iload_n 1, 1) := by decide +kernel
theorem dX8_refusalOfTocks_37 : decode cX8_refusalOfTocks 37 = .ok (.iload_n 2, 1) := by decide +kernel
theorem dX8_refusalOfTocks_38 : decode cX8_refusalOfTocks 38 = .ok (.invokevirtual 263, 3) := by decide +kernel
theorem dX8_refusalOfTocks_41 : decode cX8_refusalOfTocks 41 = .ok (.ifCond .ne 9, 3) := by decide +kernel
theorem dX8_refusalOfTocks_44 : decode cX8_refusalOfTocks 44 = .ok (.aload_n 0, 1) := by decide +kernel
theorem dX8_refusalOfTocks_45 : decode cX8_refusalOfTocks 45 = .ok (.iconst 1, 1) := by decide +kernel
theorem dX8_refusalOfTocks_46 : decode cX8_refusalOfTocks 46 = .ok (.invokevirtual 150, 3) := by decide +kernel
theorem dX8_refusalOfTocks_49 : decode cX8_refusalOfTocks 49 = .ok (.ireturn, 1) := by decide +kernel
theorem dX8_refusalOfTocks_50 : decode cX8_refusalOfTocks 50 = .ok (.aload_n 0, 1) := by decide +kernel
theorem dX8_refusalOfTocks_51 : decode cX8_refusalOfTocks 51 = .ok (.getfield 11, 3) := by decide +kernel
theorem dX8_refusalOfTocks_54 : decode cX8_refusalOfTocks 54 = .ok (.iload_n 3, 1) := by decide +kernel
theorem dX8_refusalOfTocks_55 : decode cX8_refusalOfTocks 55 = .ok (.aaload, 1) := by decide +kernel
theorem dX8_refusalOfTocks_56 : decode cX8_refusalOfTocks 56 = .ok (.getfield 170, 3) := by decide +kernel
theorem dX8_refusalOfTocks_59 : decode cX8_refusalOfTocks 59 = .ok (.iconst 2, 1) := by decide +kernel
theorem dX8_refusalOfTocks_60 : decode cX8_refusalOfTocks 60 = .ok (.if_icmp .ge 9, 3) := by decide +kernel
theorem dX8_refusalOfTocks_63 : decode cX8_refusalOfTocks 63 = .ok (.aload_n 0, 1) := by decide +kernel
theorem dX8_refusalOfTocks_64 : decode cX8_refusalOfTocks 64 = .ok (.iconst 5, 1) := by decide +kernel
theorem dX8_refusalOfTocks_65 : decode cX8_refusalOfTocks 65 = .ok (.invokevirtual 150, 3) := by decide +kernel
theorem dX8_refusalOfTocks_68 : decode cX8_refusalOfTocks 68 = .ok (.ireturn, 1) := by decide +kernel
theorem dX8_refusalOfTocks_69 : decode cX8_refusalOfTocks 69 = .ok (.iconst 0, 1) := by decide +kernel
theorem dX8_refusalOfTocks_70 : decode cX8_refusalOfTocks 70 = .ok (.istore 4, 2) := by decide +kernel
theorem dX8_refusalOfTocks_72 : decode cX8_refusalOfTocks 72 = .ok (.iload 4, 2) := by decide +kernel
theorem dX8_refusalOfTocks_74 : decode cX8_refusalOfTocks 74 = .ok (.aload_n 0, 1) := by decide +kernel
theorem dX8_refusalOfTocks_75 : decode cX8_refusalOfTocks 75 = .ok (.getfield 11, 3) := by decide +kernel
theorem dX8_refusalOfTocks_78 : decode cX8_refusalOfTocks 78 = .ok (.iload_n 3, 1) := by decide +kernel
theorem dX8_refusalOfTocks_79 : decode cX8_refusalOfTocks 79 = .ok (.aaload, 1) := by decide +kernel
theorem dX8_refusalOfTocks_80 : decode cX8_refusalOfTocks 80 = .ok (.getfield 170, 3) := by decide +kernel
theorem dX8_refusalOfTocks_83 : decode cX8_refusalOfTocks 83 = .ok (.if_icmp .ge 33, 3) := by decide +kernel
theorem dX8_refusalOfTocks_86 : decode cX8_refusalOfTocks 86 = .ok (.aload_n 0, 1) := by decide +kernel
theorem dX8_refusalOfTocks_87 : decode cX8_refusalOfTocks 87 = .ok (.getfield 11, 3) := by decide +kernel
theorem dX8_refusalOfTocks_90 : decode cX8_refusalOfTocks 90 = .ok (.iload_n 3, 1) := by decide +kernel
theorem dX8_refusalOfTocks_91 : decode cX8_refusalOfTocks 91 = .ok (.aaload, 1) := by decide +kernel
theorem dX8_refusalOfTocks_92 : decode cX8_refusalOfTocks 92 = .ok (.getfield 164, 3) := by decide +kernel
theorem dX8_refusalOfTocks_95 : decode cX8_refusalOfTocks 95 = .ok (.iload 4, 2) := by decide +kernel
theorem dX8_refusalOfTocks_97 : decode cX8_refusalOfTocks 97 = .ok (.iaload, 1) := by decide +kernel
theorem dX8_refusalOfTocks_98 : decode cX8_refusalOfTocks 98 = .ok (.invokestatic 101, 3) := by decide +kernel
theorem dX8_refusalOfTocks_101 : decode cX8_refusalOfTocks 101 = .ok (.ifCond .eq 9, 3) := by decide +kernel
theorem dX8_refusalOfTocks_104 : decode cX8_refusalOfTocks 104 = .ok (.aload_n 0, 1) := by decide +kernel
theorem dX8_refusalOfTocks_105 : decode cX8_refusalOfTocks 105 = .ok (.iconst 3, 1) := by decide +kernel
theorem dX8_refusalOfTocks_106 : decode cX8_refusalOfTocks 106 = .ok (.invokevirtual 150, 3) := by decide +kernel
theorem dX8_refusalOfTocks_109 : decode cX8_refusalOfTocks 109 = .ok (.ireturn, 1) := by decide +kernel
theorem dX8_refusalOfTocks_110 : decode cX8_refusalOfTocks 110 = .ok (.iinc 4 1, 3) := by decide +kernel
theorem dX8_refusalOfTocks_113 : decode cX8_refusalOfTocks 113 = .ok (.goto (-41), 3) := by decide +kernel
theorem dX8_refusalOfTocks_116 : decode cX8_refusalOfTocks 116 = .ok (.iconst 0, 1) := by decide +kernel
theorem dX8_refusalOfTocks_117 : decode cX8_refusalOfTocks 117 = .ok (.ireturn, 1) := by decide +kernel
theorem dX8_part_0 : decode cX8_part 0 = .ok (.iload_n 1, 1) := by decide +kernel
theorem dX8_part_1 : decode cX8_part 1 = .ok (.iload_n 2, 1) := by decide +kernel
theorem dX8_part_2 : decode cX8_part 2 = .ok (.iload_n 3, 1) := by decide +kernel
theorem dX8_part_3 : decode cX8_part 3 = .ok (.invokestatic 104, 3) := by decide +kernel
theorem dX8_part_6 : decode cX8_part 6 = .ok (.ifCond .ne 13, 3) := by decide +kernel
theorem dX8_part_9 : decode cX8_part 9 = .ok (.iload 4, 2) := by decide +kernel
theorem dX8_part_11 : decode cX8_part 11 = .ok (.iconst 0, 1) := by decide +kernel
theorem dX8_part_12 : decode cX8_part 12 = .ok (.iconst 3, 1) := by decide +kernel
theorem dX8_part_13 : decode cX8_part 13 = .ok (.invokestatic 90, 3) := by decide +kernel
theorem dX8_part_16 : decode cX8_part 16 = .ok (.ifCond .eq 5, 3) := by decide +kernel
theorem dX8_part_19 : decode cX8_part 19 = .ok (.iconst (-1), 1) := by decide +kernel
theorem dX8_part_20 : decode cX8_part 20 = .ok (.ireturn, 1) := by decide +kernel
theorem dX8_part_21 : decode cX8_part 21 = .ok (.aload_n 0, 1) := by decide +kernel
theorem dX8_part_22 : decode cX8_part 22 = .ok (.iload_n 1, 1) := by decide +kernel
theorem dX8_part_23 : decode cX8_part 23 = .ok (.iload_n 2, 1) := by decide +kernel
theorem dX8_part_24 : decode cX8_part 24 = .ok (.invokevirtual 263, 3) := by decide +kernel
theorem dX8_part_27 : decode cX8_part 27 = .ok (.ifCond .ne 9, 3) := by decide +kernel
theorem dX8_part_30 : decode cX8_part 30 = .ok (.aload_n 0, 1) := by decide +kernel
theorem dX8_part_31 : decode cX8_part 31 = .ok (.iconst 1, 1) := by decide +kernel
theorem dX8_part_32 : decode cX8_part 32 = .ok (.invokevirtual 150, 3) := by decide +kernel
theorem dX8_part_35 : decode cX8_part 35 = .ok (.ireturn, 1) := by decide +kernel
theorem dX8_part_36 : decode cX8_part 36 = .ok (.aload_n 0, 1) := by decide +kernel
theorem dX8_part_37 : decode cX8_part 37 = .ok (.getfield 54, 3) := by decide +kernel
theorem dX8_part_40 : decode cX8_part 40 = .ok (.iload_n 3, 1) := by decide +kernel
theorem dX8_part_41 : decode cX8_part 41 = .ok (.invokevirtual 291, 3) := by decide +kernel
theorem dX8_part_44 : decode cX8_part 44 = .ok (.istore 5, 2) := by decide +kernel
theorem dX8_part_46 : decode cX8_part 46 = .ok (.aload_n 0, 1) := by decide +kernel
theorem dX8_part_47 : decode cX8_part 47 = .ok (.getfield 54, 3) := by decide +kernel
theorem dX8_part_50 : decode cX8_part 50 = .ok (.getfield 115, 3) := by decide +kernel
theorem dX8_part_53 : decode cX8_part 53 = .ok (.getfield 116, 3) := by decide +kernel
theorem dX8_part_56 : decode cX8_part 56 = .ok (.getfield 226, 3) := by decide +kernel
theorem dX8_part_59 : decode cX8_part 59 = .ok (.iload 4, 2) := by decide +kernel
theorem dX8_part_61 : decode cX8_part 61 = .ok (.iconst 1, 1) := by decide +kernel
theorem dX8_part_62 : decode cX8_part 62 = .ok (.iastore, 1) := by decide +kernel
theorem dX8_part_63 : decode cX8_part 63 = .ok (.aload_n 0, 1) := by decide +kernel
theorem dX8_part_64 : decode cX8_part 64 = .ok (.getfield 54, 3) := by decide +kernel
theorem dX8_part_67 : decode cX8_part 67 = .ok (.iload_n 3, 1) := by decide +kernel
theorem dX8_part_68 : decode cX8_part 68 = .ok (.invokevirtual 291, 3) := by decide +kernel
theorem dX8_part_71 : decode cX8_part 71 = .ok (.istore 6, 2) := by decide +kernel
theorem dX8_part_73 : decode cX8_part 73 = .ok (.aload_n 0, 1) := by decide +kernel
theorem dX8_part_74 : decode cX8_part 74 = .ok (.iload 6, 2) := by decide +kernel
theorem dX8_part_76 : decode cX8_part 76 = .ok (.invokevirtual 167, 3) := by decide +kernel
theorem dX8_part_79 : decode cX8_part 79 = .ok (.pop, 1) := by decide +kernel
theorem dX8_part_80 : decode cX8_part 80 = .ok (.bipush 100, 2) := by decide +kernel
theorem dX8_part_82 : decode cX8_part 82 = .ok (.iload 5, 2) := by decide +kernel
theorem dX8_part_84 : decode cX8_part 84 = .ok (.iadd, 1) := by decide +kernel
theorem dX8_part_85 : decode cX8_part 85 = .ok (.iload 6, 2) := by decide +kernel
theorem dX8_part_87 : decode cX8_part 87 = .ok (.isub, 1) := by decide +kernel
theorem dX8_part_88 : decode cX8_part 88 = .ok (.ireturn, 1) := by decide +kernel
theorem dX8_made_0 : decode cX8_made 0 = .ok (.iload_n 1, 1) := by decide +kernel
theorem dX8_made_1 : decode cX8_made 1 = .ok (.iload_n 2, 1) := by decide +kernel
theorem dX8_made_2 : decode cX8_made 2 = .ok (.iload_n 3, 1) := by decide +kernel
theorem dX8_made_3 : decode cX8_made 3 = .ok (.iload 4, 2) := by decide +kernel
theorem dX8_made_5 : decode cX8_made 5 = .ok (.invokestatic 229, 3) := by decide +kernel
theorem dX8_made_8 : decode cX8_made 8 = .ok (.ifCond .eq 5, 3) := by decide +kernel
theorem dX8_made_11 : decode cX8_made 11 = .ok (.iconst (-1), 1) := by decide +kernel
theorem dX8_made_12 : decode cX8_made 12 = .ok (.ireturn, 1) := by decide +kernel
theorem dX8_made_13 : decode cX8_made 13 = .ok (.aload_n 0, 1) := by decide +kernel
theorem dX8_made_14 : decode cX8_made 14 = .ok (.iload_n 1, 1) := by decide +kernel
theorem dX8_made_15 : decode cX8_made 15 = .ok (.iload_n 2, 1) := by decide +kernel
theorem dX8_made_16 : decode cX8_made 16 = .ok (.invokevirtual 263, 3) := by decide +kernel
theorem dX8_made_19 : decode cX8_made 19 = .ok (.ifCond .ne 9, 3) := by decide +kernel
theorem dX8_made_22 : decode cX8_made 22 = .ok (.aload_n 0, 1) := by decide +kernel
theorem dX8_made_23 : decode cX8_made 23 = .ok (.iconst 1, 1) := by decide +kernel
theorem dX8_made_24 : decode cX8_made 24 = .ok (.invokevirtual 150, 3) := by decide +kernel
theorem dX8_made_27 : decode cX8_made 27 = .ok (.ireturn, 1) := by decide +kernel
theorem dX8_made_28 : decode cX8_made 28 = .ok (.aload_n 0, 1) := by decide +kernel
theorem dX8_made_29 : decode cX8_made 29 = .ok (.getfield 23, 3) := by decide +kernel
theorem dX8_made_32 : decode cX8_made 32 = .ok (.iload_n 1, 1) := by decide +kernel
theorem dX8_made_33 : decode cX8_made 33 = .ok (.aaload, 1) := by decide +kernel
theorem dX8_made_34 : decode cX8_made 34 = .ok (.getfield 226, 3) := by decide +kernel
theorem dX8_made_37 : decode cX8_made 37 = .ok (.astore 5, 2) := by decide +kernel
theorem dX8_made_39 : decode cX8_made 39 = .ok (.iconst 0, 1) := by decide +kernel
theorem dX8_made_40 : decode cX8_made 40 = .ok (.istore 6, 2) := by decide +kernel
theorem dX8_made_42 : decode cX8_made 42 = .ok (.iconst 0, 1) := by decide +kernel
theorem dX8_made_43 : decode cX8_made 43 = .ok (.istore 7, 2) := by decide +kernel
theorem dX8_made_45 : decode cX8_made 45 = .ok (.iconst 0, 1) := by decide +kernel
theorem dX8_made_46 : decode cX8_made 46 = .ok (.istore 8, 2) := by decide +kernel
theorem dX8_made_48 : decode cX8_made 48 = .ok (.iload 8, 2) := by decide +kernel
theorem dX8_made_50 : decode cX8_made 50 = .ok (.bipush 27, 2) := by decide +kernel
theorem dX8_made_52 : decode cX8_made 52 = .ok (.if_icmp .ge 125, 3) := by decide +kernel
theorem dX8_made_55 : decode cX8_made 55 = .ok (.aload 5, 2) := by decide +kernel
theorem dX8_made_57 : decode cX8_made 57 = .ok (.iconst 0, 1) := by decide +kernel
theorem dX8_made_58 : decode cX8_made 58 = .ok (.iaload, 1) := by decide +kernel
theorem dX8_made_59 : decode cX8_made 59 = .ok (.iload 8, 2) := by decide +kernel
theorem dX8_made_61 : decode cX8_made 61 = .ok (.bipush 9, 2) := by decide +kernel
theorem dX8_made_63 : decode cX8_made 63 = .ok (.idiv, 1) := by decide +kernel
theorem dX8_made_64 : decode cX8_made 64 = .ok (.iadd, 1) := by decide +kernel
theorem dX8_made_65 : decode cX8_made 65 = .ok (.iconst 1, 1) := by decide +kernel
theorem dX8_made_66 : decode cX8_made 66 = .ok (.isub, 1) := by decide +kernel
theorem dX8_made_67 : decode cX8_made 67 = .ok (.istore 9, 2) := by decide +kernel
theorem dX8_made_69 : decode cX8_made 69 = .ok (.aload 5, 2) := by decide +kernel
theorem dX8_made_71 : decode cX8_made 71 = .ok (.iconst 1, 1) := by decide +kernel
theorem dX8_made_72 : decode cX8_made 72 = .ok (.iaload, 1) := by decide +kernel
theorem dX8_made_73 : decode cX8_made 73 = .ok (.iload 8, 2) := by decide +kernel
theorem dX8_made_75 : decode cX8_made 75 = .ok (.iconst 3, 1) := by decide +kernel
theorem dX8_made_76 : decode cX8_made 76 = .ok (.idiv, 1) := by decide +kernel
theorem dX8_made_77 : decode cX8_made 77 = .ok (.iconst 3, 1) := by decide +kernel
theorem dX8_made_78 : decode cX8_made 78 = .ok (.irem, 1) := by decide +kernel
theorem dX8_made_79 : decode cX8_made 79 = .ok (.iadd, 1) := by decide +kernel
theorem dX8_made_80 : decode cX8_made 80 = .ok (.iconst 1, 1) := by decide +kernel
theorem dX8_made_81 : decode cX8_made 81 = .ok (.isub, 1) := by decide +kernel
theorem dX8_made_82 : decode cX8_made 82 = .ok (.istore 10, 2) := by decide +kernel
theorem dX8_made_84 : decode cX8_made 84 = .ok (.aload 5, 2) := by decide +kernel
theorem dX8_made_86 : decode cX8_made 86 = .ok (.iconst 2, 1) := by decide +kernel
theorem dX8_made_87 : decode cX8_made 87 = .ok (.iaload, 1) := by decide +kernel
theorem dX8_made_88 : decode cX8_made 88 = .ok (.iload 8, 2) := by decide +kernel
theorem dX8_made_90 : decode cX8_made 90 = .ok (.iconst 3, 1) := by decide +kernel
theorem dX8_made_91 : decode cX8_made 91 = .ok (.irem, 1) := by decide +kernel
theorem dX8_made_92 : decode cX8_made 92 = .ok (.iadd, 1) := by decide +kernel
theorem dX8_made_93 : decode cX8_made 93 = .ok (.iconst 1, 1) := by decide +kernel
theorem dX8_made_94 : decode cX8_made 94 = .ok (.isub, 1) := by decide +kernel
theorem dX8_made_95 : decode cX8_made 95 = .ok (.istore 11, 2) := by decide +kernel
theorem dX8_made_97 : decode cX8_made 97 = .ok (.iload 9, 2) := by decide +kernel
theorem dX8_made_99 : decode cX8_made 99 = .ok (.iconst 1, 1) := by decide +kernel
theorem dX8_made_100 : decode cX8_made 100 = .ok (.bipush 9, 2) := by decide +kernel
theorem dX8_made_102 : decode cX8_made 102 = .ok (.invokestatic 90, 3) := by decide +kernel
theorem dX8_made_105 : decode cX8_made 105 = .ok (.ifCond .ne 66, 3) := by decide +kernel
theorem dX8_made_108 : decode cX8_made 108 = .ok (.iload 10, 2) := by decide +kernel
theorem dX8_made_110 : decode cX8_made 110 = .ok (.iconst 1, 1) := by decide +kernel
theorem dX8_made_111 : decode cX8_made 111 = .ok (.bipush 9, 2) := by decide +kernel
theorem dX8_made_113 : decode cX8_made 113 = .ok (.invokestatic 90, 3) := by decide +kernel
theorem dX8_made_116 : decode cX8_made 116 = .ok (.ifCond .ne 55, 3) := by decide +kernel
theorem dX8_made_119 : decode cX8_made 119 = .ok (.iload 11, 2) := by decide +kernel
theorem dX8_made_121 : decode cX8_made 121 = .ok (.iconst 1, 1) := by decide +kernel
theorem dX8_made_122 : decode cX8_made 122 = .ok (.bipush 9, 2) := by decide +kernel
theorem dX8_made_124 : decode cX8_made 124 = .ok (.invokestatic 90, 3) := by decide +kernel
theorem dX8_made_127 : decode cX8_made 127 = .ok (.ifCond .eq 6, 3) := by decide +kernel
theorem dX8_made_130 : decode cX8_made 130 = .ok (.goto 41, 3) := by decide +kernel
theorem dX8_made_133 : decode cX8_made 133 = .ok (.aload_n 0, 1) := by decide +kernel
theorem dX8_made_134 : decode cX8_made 134 = .ok (.getfield 54, 3) := by decide +kernel
theorem dX8_made_137 : decode cX8_made 137 = .ok (.getfield 115, 3) := by decide +kernel
theorem dX8_made_140 : decode cX8_made 140 = .ok (.getfield 116, 3) := by decide +kernel
theorem dX8_made_143 : decode cX8_made 143 = .ok (.iload 9, 2) := by decide +kernel
theorem dX8_made_145 : decode cX8_made 145 = .ok (.iload 10, 2) := by decide +kernel
theorem dX8_made_147 : decode cX8_made 147 = .ok (.iload 11, 2) := by decide +kernel
theorem dX8_made_149 : decode cX8_made 149 = .ok (.invokevirtual 318, 3) := by decide +kernel
theorem dX8_made_152 : decode cX8_made 152 = .ok (.iinc 6 1, 3) := by decide +kernel
theorem dX8_made_155 : decode cX8_made 155 = .ok (.aload_n 0, 1) := by decide +kernel
theorem dX8_made_156 : decode cX8_made 156 = .ok (.getfield 54, 3) := by decide +kernel
theorem dX8_made_159 : decode cX8_made 159 = .ok (.iload_n 3, 1) := by decide +kernel
theorem dX8_made_160 : decode cX8_made 160 = .ok (.iload 4, 2) := by decide +kernel
theorem dX8_made_162 : decode cX8_made 162 = .ok (.invokevirtual 285, 3) := by decide +kernel
theorem dX8_made_165 : decode cX8_made 165 = .ok (.ifCond .eq 6, 3) := by decide +kernel
theorem dX8_made_168 : decode cX8_made 168 = .ok (.iinc 7 1, 3) := by decide +kernel
theorem dX8_made_171 : decode cX8_made 171 = .ok (.iinc 8 1, 3) := by decide +kernel
theorem dX8_made_174 : decode cX8_made 174 = .ok (.goto (-126), 3) := by decide +kernel
theorem dX8_made_177 : decode cX8_made 177 = .ok (.aload_n 0, 1) := by decide +kernel
theorem dX8_made_178 : decode cX8_made 178 = .ok (.iload 7, 2) := by decide +kernel
theorem dX8_made_180 : decode cX8_made 180 = .ok (.iload 6, 2) := by decide +kernel
theorem dX8_made_182 : decode cX8_made 182 = .ok (.invokevirtual 315, 3) := by decide +kernel
theorem dX8_made_185 : decode cX8_made 185 = .ok (.iload 6, 2) := by decide +kernel
theorem dX8_made_187 : decode cX8_made 187 = .ok (.ireturn, 1) := by decide +kernel
theorem dX8_would_0 : decode cX8_would 0 = .ok (.iload_n 1, 1) := by decide +kernel
theorem dX8_would_1 : decode cX8_would 1 = .ok (.iload_n 2, 1) := by decide +kernel
theorem dX8_would_2 : decode cX8_would 2 = .ok (.iload_n 3, 1) := by decide +kernel
theorem dX8_would_3 : decode cX8_would 3 = .ok (.iload 4, 2) := by decide +kernel
theorem dX8_would_5 : decode cX8_would 5 = .ok (.invokestatic 229, 3) := by decide +kernel
theorem dX8_would_8 : decode cX8_would 8 = .ok (.ifCond .eq 5, 3) := by decide +kernel
theorem dX8_would_11 : decode cX8_would 11 = .ok (.iconst (-1), 1) := by decide +kernel
theorem dX8_would_12 : decode cX8_would 12 = .ok (.ireturn, 1) := by decide +kernel
theorem dX8_would_13 : decode cX8_would 13 = .ok (.aload_n 0, 1) := by decide +kernel
theorem dX8_would_14 : decode cX8_would 14 = .ok (.iload_n 1, 1) := by decide +kernel
theorem dX8_would_15 : decode cX8_would 15 = .ok (.iload_n 2, 1) := by decide +kernel
theorem dX8_would_16 : decode cX8_would 16 = .ok (.invokevirtual 263, 3) := by decide +kernel
theorem dX8_would_19 : decode cX8_would 19 = .ok (.ifCond .ne 9, 3) := by decide +kernel
theorem dX8_would_22 : decode cX8_would 22 = .ok (.aload_n 0, 1) := by decide +kernel
theorem dX8_would_23 : decode cX8_would 23 = .ok (.iconst 1, 1) := by decide +kernel
theorem dX8_would_24 : decode cX8_would 24 = .ok (.invokevirtual 150, 3) := by decide +kernel
theorem dX8_would_27 : decode cX8_would 27 = .ok (.ireturn, 1) := by decide +kernel
theorem dX8_would_28 : decode cX8_would 28 = .ok (.aload_n 0, 1) := by decide +kernel
theorem dX8_would_29 : decode cX8_would 29 = .ok (.getfield 23, 3) := by decide +kernel
theorem dX8_would_32 : decode cX8_would 32 = .ok (.iload_n 1, 1) := by decide +kernel
theorem dX8_would_33 : decode cX8_would 33 = .ok (.aaload, 1) := by decide +kernel
theorem dX8_would_34 : decode cX8_would 34 = .ok (.astore 5, 2) := by decide +kernel
theorem dX8_would_36 : decode cX8_would 36 = .ok (.aload 5, 2) := by decide +kernel
theorem dX8_would_38 : decode cX8_would 38 = .ok (.getfield 205, 3) := by decide +kernel
theorem dX8_would_41 : decode cX8_would 41 = .ok (.invokestatic 208, 3) := by decide +kernel
theorem dX8_would_44 : decode cX8_would 44 = .ok (.iconst 3, 1) := by decide +kernel
theorem dX8_would_45 : decode cX8_would 45 = .ok (.if_icmp .le 6, 3) := by decide +kernel
theorem dX8_would_48 : decode cX8_would 48 = .ok (.bipush (-6), 2) := by decide +kernel
theorem dX8_would_50 : decode cX8_would 50 = .ok (.ireturn, 1) := by decide +kernel
theorem dX8_would_51 : decode cX8_would 51 = .ok (.iconst 0, 1) := by decide +kernel
theorem dX8_would_52 : decode cX8_would 52 = .ok (.istore 6, 2) := by decide +kernel
theorem dX8_would_54 : decode cX8_would 54 = .ok (.bipush (-9), 2) := by decide +kernel
theorem dX8_would_56 : decode cX8_would 56 = .ok (.istore 7, 2) := by decide +kernel
theorem dX8_would_58 : decode cX8_would 58 = .ok (.aload 5, 2) := by decide +kernel
theorem dX8_would_60 : decode cX8_would 60 = .ok (.invokevirtual 321, 3) := by decide +kernel
theorem dX8_would_63 : decode cX8_would 63 = .ok (.iconst 1, 1) := by decide +kernel
theorem dX8_would_64 : decode cX8_would 64 = .ok (.isub, 1) := by decide +kernel
theorem dX8_would_65 : decode cX8_would 65 = .ok (.istore 8, 2) := by decide +kernel
theorem dX8_would_67 : decode cX8_would 67 = .ok (.iload 8, 2) := by decide +kernel
theorem dX8_would_69 : decode cX8_would 69 = .ok (.ifCond .lt 55, 3) := by decide +kernel
theorem dX8_would_72 : decode cX8_would 72 = .ok (.aload_n 0, 1) := by decide +kernel
theorem dX8_would_73 : decode cX8_would 73 = .ok (.getfield 54, 3) := by decide +kernel
theorem dX8_would_76 : decode cX8_would 76 = .ok (.getfield 115, 3) := by decide +kernel
theorem dX8_would_79 : decode cX8_would 79 = .ok (.getfield 116, 3) := by decide +kernel
theorem dX8_would_82 : decode cX8_would 82 = .ok (.iload 8, 2) := by decide +kernel
theorem dX8_would_84 : decode cX8_would 84 = .ok (.invokevirtual 325, 3) := by decide +kernel
theorem dX8_would_87 : decode cX8_would 87 = .ok (.aload_n 0, 1) := by decide +kernel
theorem dX8_would_88 : decode cX8_would 88 = .ok (.getfield 54, 3) := by decide +kernel
theorem dX8_would_91 : decode cX8_would 91 = .ok (.iload_n 3, 1) := by decide +kernel
theorem dX8_would_92 : decode cX8_would 92 = .ok (.iload 4, 2) := by decide +kernel
theorem dX8_would_94 : decode cX8_would 94 = .ok (.invokevirtual 285, 3) := by decide +kernel
theorem dX8_would_97 : decode cX8_would 97 = .ok (.ifCond .eq 21, 3) := by decide +kernel
theorem dX8_would_100 : decode cX8_would 100 = .ok (.iinc 6 1, 3) := by decide +kernel
theorem dX8_would_103 : decode cX8_would 103 = .ok (.aload_n 0, 1) := by decide +kernel
theorem dX8_would_104 : decode cX8_would 104 = .ok (.getfield 54, 3) := by decide +kernel
theorem dX8_would_107 : decode cX8_would 107 = .ok (.getfield 115, 3) := by decide +kernel
theorem dX8_would_110 : decode cX8_would 110 = .ok (.getfield 116, 3) := by decide +kernel
theorem dX8_would_113 : decode cX8_would 113 = .ok (.invokevirtual 328, 3) := by decide +kernel
theorem dX8_would_116 : decode cX8_would 116 = .ok (.istore 7, 2) := by decide +kernel
theorem dX8_would_118 : decode cX8_would 118 = .ok (.iinc 8 (-1), 3) := by decide +kernel
theorem dX8_would_121 : decode cX8_would 121 = .ok (.goto (-54), 3) := by decide +kernel
theorem dX8_would_124 : decode cX8_would 124 = .ok (.aload_n 0, 1) := by decide +kernel
theorem dX8_would_125 : decode cX8_would 125 = .ok (.iload 7, 2) := by decide +kernel
theorem dX8_would_127 : decode cX8_would 127 = .ok (.invokevirtual 167, 3) := by decide +kernel
theorem dX8_would_130 : decode cX8_would 130 = .ok (.pop, 1) := by decide +kernel
theorem dX8_would_131 : decode cX8_would 131 = .ok (.iload 6, 2) := by decide +kernel
theorem dX8_would_133 : decode cX8_would 133 = .ok (.ireturn, 1) := by decide +kernel
theorem dX8_yard_0 : decode cX8_yard 0 = .ok (.iload_n 1, 1) := by decide +kernel
theorem dX8_yard_1 : decode cX8_yard 1 = .ok (.iload_n 2, 1) := by decide +kernel
theorem dX8_yard_2 : decode cX8_yard 2 = .ok (.iload_n 3, 1) := by decide +kernel
theorem dX8_yard_3 : decode cX8_yard 3 = .ok (.iload 4, 2) := by decide +kernel
theorem dX8_yard_5 : decode cX8_yard 5 = .ok (.invokestatic 229, 3) := by decide +kernel
theorem dX8_yard_8 : decode cX8_yard 8 = .ok (.ifCond .ne 15, 3) := by decide +kernel
theorem dX8_yard_11 : decode cX8_yard 11 = .ok (.iload 5, 2) := by decide +kernel
theorem dX8_yard_13 : decode cX8_yard 13 = .ok (.iconst 1, 1) := by decide +kernel
theorem dX8_yard_14 : decode cX8_yard 14 = .ok (.sipush 2000, 3) := by decide +kernel
theorem dX8_yard_17 : decode cX8_yard 17 = .ok (.invokestatic 90, 3) := by decide +kernel
theorem dX8_yard_20 : decode cX8_yard 20 = .ok (.ifCond .eq 5, 3) := by decide +kernel
theorem dX8_yard_23 : decode cX8_yard 23 = .ok (.iconst (-1), 1) := by decide +kernel
theorem dX8_yard_24 : decode cX8_yard 24 = .ok (.ireturn, 1) := by decide +kernel
theorem dX8_yard_25 : decode cX8_yard 25 = .ok (.aload_n 0, 1) := by decide +kernel
theorem dX8_yard_26 : decode cX8_yard 26 = .ok (.iload_n 1, 1) := by decide +kernel
theorem dX8_yard_27 : decode cX8_yard 27 = .ok (.iload_n 2, 1) := by decide +kernel
theorem dX8_yard_28 : decode cX8_yard 28 = .ok (.invokevirtual 263, 3) := by decide +kernel
theorem dX8_yard_31 : decode cX8_yard 31 = .ok (.ifCond .ne 9, 3) := by decide +kernel
theorem dX8_yard_34 : decode cX8_yard 34 = .ok (.aload_n 0, 1) := by decide +kernel
theorem dX8_yard_35 : decode cX8_yard 35 = .ok (.iconst 1, 1) := by decide +kernel
theorem dX8_yard_36 : decode cX8_yard 36 = .ok (.invokevirtual 150, 3) := by decide +kernel
theorem dX8_yard_39 : decode cX8_yard 39 = .ok (.ireturn, 1) := by decide +kernel
theorem dX8_yard_40 : decode cX8_yard 40 = .ok (.aload_n 0, 1) := by decide +kernel
theorem dX8_yard_41 : decode cX8_yard 41 = .ok (.getfield 54, 3) := by decide +kernel
theorem dX8_yard_44 : decode cX8_yard 44 = .ok (.getfield 115, 3) := by decide +kernel
theorem dX8_yard_47 : decode cX8_yard 47 = .ok (.astore 6, 2) := by decide +kernel
theorem dX8_yard_49 : decode cX8_yard 49 = .ok (.aload 6, 2) := by decide +kernel
theorem dX8_yard_51 : decode cX8_yard 51 = .ok (.iload_n 3, 1) := by decide +kernel
theorem dX8_yard_52 : decode cX8_yard 52 = .ok (.iload 4, 2) := by decide +kernel
theorem dX8_yard_54 : decode cX8_yard 54 = .ok (.iconst 0, 1) := by decide +kernel
theorem dX8_yard_55 : decode cX8_yard 55 = .ok (.invokevirtual 233, 3) := by decide +kernel
theorem dX8_yard_58 : decode cX8_yard 58 = .ok (.iconst 1, 1) := by decide +kernel
theorem dX8_yard_59 : decode cX8_yard 59 = .ok (.istore 7, 2) := by decide +kernel
theorem dX8_yard_61 : decode cX8_yard 61 = .ok (.iload 7, 2) := by decide +kernel
theorem dX8_yard_63 : decode cX8_yard 63 = .ok (.sipush 400, 3) := by decide +kernel
theorem dX8_yard_66 : decode cX8_yard 66 = .ok (.if_icmp .gt 40, 3) := by decide +kernel
theorem dX8_yard_69 : decode cX8_yard 69 = .ok (.aload 6, 2) := by decide +kernel
theorem dX8_yard_71 : decode cX8_yard 71 = .ok (.invokevirtual 248, 3) := by decide +kernel
theorem dX8_yard_74 : decode cX8_yard 74 = .ok (.ifCond .eq 32, 3) := by decide +kernel
theorem dX8_yard_77 : decode cX8_yard 77 = .ok (.aload 6, 2) := by decide +kernel
theorem dX8_yard_79 : decode cX8_yard 79 = .ok (.getfield 331, 3) := by decide +kernel
theorem dX8_yard_82 : decode cX8_yard 82 = .ok (.iload 5, 2) := by decide +kernel
theorem dX8_yard_84 : decode cX8_yard 84 = .ok (.if_icmp .lt 16, 3) := by decide +kernel
theorem dX8_yard_87 : decode cX8_yard 87 = .ok (.aload_n 0, 1) := by decide +kernel
theorem dX8_yard_88 : decode cX8_yard 88 = .ok (.aload 6, 2) := by decide +kernel
theorem dX8_yard_90 : decode cX8_yard 90 = .ok (.getfield 334, 3) := by decide +kernel
theorem dX8_yard_93 : decode cX8_yard 93 = .ok (.invokevirtual 167, 3) := by decide +kernel
theorem dX8_yard_96 : decode cX8_yard 96 = .ok (.pop, 1) := by decide +kernel
theorem dX8_yard_97 : decode cX8_yard 97 = .ok (.iload 7, 2) := by decide +kernel
theorem dX8_yard_99 : decode cX8_yard 99 = .ok (.ireturn, 1) := by decide +kernel
theorem dX8_yard_100 : decode cX8_yard 100 = .ok (.iinc 7 1, 3) := by decide +kernel
theorem dX8_yard_103 : decode cX8_yard 103 = .ok (.goto (-42), 3) := by decide +kernel
theorem dX8_yard_106 : decode cX8_yard 106 = .ok (.bipush (-9), 2) := by decide +kernel
theorem dX8_yard_108 : decode cX8_yard 108 = .ok (.ireturn, 1) := by decide +kernel
theorem dX8_push_0 : decode cX8_push 0 = .ok (.iload_n 1, 1) := by decide +kernel
theorem dX8_push_1 : decode cX8_push 1 = .ok (.iload_n 2, 1) := by decide +kernel
theorem dX8_push_2 : decode cX8_push 2 = .ok (.iload_n 3, 1) := by decide +kernel
theorem dX8_push_3 : decode cX8_push 3 = .ok (.invokestatic 104, 3) := by decide +kernel
theorem dX8_push_6 : decode cX8_push 6 = .ok (.ifCond .eq 5, 3) := by decide +kernel
theorem dX8_push_9 : decode cX8_push 9 = .ok (.iconst (-1), 1) := by decide +kernel
theorem dX8_push_10 : decode cX8_push 10 = .ok (.ireturn, 1) := by decide +kernel
theorem dX8_push_11 : decode cX8_push 11 = .ok (.aload_n 0, 1) := by decide +kernel
theorem dX8_push_12 : decode cX8_push 12 = .ok (.iload_n 1, 1) := by decide +kernel
theorem dX8_push_13 : decode cX8_push 13 = .ok (.iload_n 2, 1) := by decide +kernel
theorem dX8_push_14 : decode cX8_push 14 = .ok (.invokevirtual 263, 3) := by decide +kernel
theorem dX8_push_17 : decode cX8_push 17 = .ok (.ifCond .ne 9, 3) := by decide +kernel
theorem dX8_push_20 : decode cX8_push 20 = .ok (.aload_n 0, 1) := by decide +kernel
theorem dX8_push_21 : decode cX8_push 21 = .ok (.iconst 1, 1) := by decide +kernel
theorem dX8_push_22 : decode cX8_push 22 = .ok (.invokevirtual 150, 3) := by decide +kernel
theorem dX8_push_25 : decode cX8_push 25 = .ok (.ireturn, 1) := by decide +kernel
theorem dX8_push_26 : decode cX8_push 26 = .ok (.aload_n 0, 1) := by decide +kernel
theorem dX8_push_27 : decode cX8_push 27 = .ok (.aload_n 0, 1) := by decide +kernel
theorem dX8_push_28 : decode cX8_push 28 = .ok (.getfield 23, 3) := by decide +kernel
theorem dX8_push_31 : decode cX8_push 31 = .ok (.iload_n 1, 1) := by decide +kernel
theorem dX8_push_32 : decode cX8_push 32 = .ok (.aaload, 1) := by decide +kernel
theorem dX8_push_33 : decode cX8_push 33 = .ok (.iload_n 3, 1) := by decide +kernel
theorem dX8_push_34 : decode cX8_push 34 = .ok (.iconst 1, 1) := by decide +kernel
theorem dX8_push_35 : decode cX8_push 35 = .ok (.invokevirtual 337, 3) := by decide +kernel
theorem dX8_push_38 : decode cX8_push 38 = .ok (.istore 4, 2) := by decide +kernel
theorem dX8_push_40 : decode cX8_push 40 = .ok (.iload 4, 2) := by decide +kernel
theorem dX8_push_42 : decode cX8_push 42 = .ok (.bipush (-9), 2) := by decide +kernel
theorem dX8_push_44 : decode cX8_push 44 = .ok (.if_icmp .eq 20, 3) := by decide +kernel
theorem dX8_push_47 : decode cX8_push 47 = .ok (.aload_n 0, 1) := by decide +kernel
theorem dX8_push_48 : decode cX8_push 48 = .ok (.aload_n 0, 1) := by decide +kernel
theorem dX8_push_49 : decode cX8_push 49 = .ok (.aload_n 0, 1) := by decide +kernel
theorem dX8_push_50 : decode cX8_push 50 = .ok (.getfield 23, 3) := by decide +kernel
theorem dX8_push_53 : decode cX8_push 53 = .ok (.iload_n 1, 1) := by decide +kernel
theorem dX8_push_54 : decode cX8_push 54 = .ok (.aaload, 1) := by decide +kernel
theorem dX8_push_55 : decode cX8_push 55 = .ok (.iload_n 3, 1) := by decide +kernel
theorem dX8_push_56 : decode cX8_push 56 = .ok (.iconst 0, 1) := by decide +kernel
theorem dX8_push_57 : decode cX8_push 57 = .ok (.invokevirtual 337, 3) := by decide +kernel
theorem dX8_push_60 : decode cX8_push 60 = .ok (.invokevirtual 167, 3) := by decide +kernel
theorem dX8_push_63 : decode cX8_push 63 = .ok (.pop, 1) := by decide +kernel
theorem dX8_push_64 : decode cX8_push 64 = .ok (.iload 4, 2) := by decide +kernel
theorem dX8_push_66 : decode cX8_push 66 = .ok (.ireturn, 1) := by decide +kernel
theorem dX8_leastPush_0 : decode cX8_leastPush 0 = .ok (.aload_n 0, 1) := by decide +kernel
theorem dX8_leastPush_1 : decode cX8_leastPush 1 = .ok (.getfield 54, 3) := by decide +kernel
theorem dX8_leastPush_4 : decode cX8_leastPush 4 = .ok (.getfield 115, 3) := by decide +kernel
theorem dX8_leastPush_7 : decode cX8_leastPush 7 = .ok (.getfield 116, 3) := by decide +kernel
theorem dX8_leastPush_10 : decode cX8_leastPush 10 = .ok (.getfield 226, 3) := by decide +kernel
theorem dX8_leastPush_13 : decode cX8_leastPush 13 = .ok (.astore 4, 2) := by decide +kernel
theorem dX8_leastPush_15 : decode cX8_leastPush 15 = .ok (.iconst 1, 1) := by decide +kernel
theorem dX8_leastPush_16 : decode cX8_leastPush 16 = .ok (.istore 5, 2) := by decide +kernel
theorem dX8_leastPush_18 : decode cX8_leastPush 18 = .ok (.iload 5, 2) := by decide +kernel
theorem dX8_leastPush_20 : decode cX8_leastPush 20 = .ok (.bipush 99, 2) := by decide +kernel
theorem dX8_leastPush_22 : decode cX8_leastPush 22 = .ok (.if_icmp .gt 107, 3) := by decide +kernel
theorem dX8_leastPush_25 : decode cX8_leastPush 25 = .ok (.aload 4, 2) := by decide +kernel
theorem dX8_leastPush_27 : decode cX8_leastPush 27 = .ok (.iconst 4, 1) := by decide +kernel
theorem dX8_leastPush_28 : decode cX8_leastPush 28 = .ok (.aload_n 1, 1) := by decide +kernel
theorem dX8_leastPush_29 : decode cX8_leastPush 29 = .ok (.getfield 226, 3) := by decide +kernel
theorem dX8_leastPush_32 : decode cX8_leastPush 32 = .ok (.iconst 4, 1) := by decide +kernel
theorem dX8_leastPush_33 : decode cX8_leastPush 33 = .ok (.iaload, 1) := by decide +kernel
theorem dX8_leastPush_34 : decode cX8_leastPush 34 = .ok (.iload 5, 2) := by decide +kernel
theorem dX8_leastPush_36 : decode cX8_leastPush 36 = .ok (.iadd, 1) := by decide +kernel
theorem dX8_leastPush_37 : decode cX8_leastPush 37 = .ok (.iastore, 1) := by decide +kernel
theorem dX8_leastPush_38 : decode cX8_leastPush 38 = .ok (.aload 4, 2) := by decide +kernel
theorem dX8_leastPush_40 : decode cX8_leastPush 40 = .ok (.iconst 5, 1) := by decide +kernel
theorem dX8_leastPush_41 : decode cX8_leastPush 41 = .ok (.aload_n 1, 1) := by decide +kernel
theorem dX8_leastPush_42 : decode cX8_leastPush 42 = .ok (.getfield 226, 3) := by decide +kernel
theorem dX8_leastPush_45 : decode cX8_leastPush 45 = .ok (.iconst 5, 1) := by decide +kernel
theorem dX8_leastPush_46 : decode cX8_leastPush 46 = .ok (.iaload, 1) := by decide +kernel
theorem dX8_leastPush_47 : decode cX8_leastPush 47 = .ok (.iload_n 3, 1) := by decide +kernel
theorem dX8_leastPush_48 : decode cX8_leastPush 48 = .ok (.ifCond .eq 8, 3) := by decide +kernel
theorem dX8_leastPush_51 : decode cX8_leastPush 51 = .ok (.iload 5, 2) := by decide +kernel
theorem dX8_leastPush_53 : decode cX8_leastPush 53 = .ok (.goto 4, 3) := by decide +kernel
theorem dX8_leastPush_56 : decode cX8_leastPush 56 = .ok (.iconst 0, 1) := by decide +kernel
theorem dX8_leastPush_57 : decode cX8_leastPush 57 = .ok (.iadd, 1) := by decide +kernel
theorem dX8_leastPush_58 : decode cX8_leastPush 58 = .ok (.iastore, 1) := by decide +kernel
theorem dX8_leastPush_59 : decode cX8_leastPush 59 = .ok (.aload_n 0, 1) := by decide +kernel
theorem dX8_leastPush_60 : decode cX8_leastPush 60 = .ok (.getfield 54, 3) := by decide +kernel
theorem dX8_leastPush_63 : decode cX8_leastPush 63 = .ok (.iconst 0, 1) := by decide +kernel
theorem dX8_leastPush_64 : decode cX8_leastPush 64 = .ok (.iload_n 2, 1) := by decide +kernel
theorem dX8_leastPush_65 : decode cX8_leastPush 65 = .ok (.invokevirtual 266, 3) := by decide +kernel
theorem dX8_leastPush_68 : decode cX8_leastPush 68 = .ok (.aload_n 0, 1) := by decide +kernel
theorem dX8_leastPush_69 : decode cX8_leastPush 69 = .ok (.getfield 54, 3) := by decide +kernel
theorem dX8_leastPush_72 : decode cX8_leastPush 72 = .ok (.iconst 4, 1) := by decide +kernel
theorem dX8_leastPush_73 : decode cX8_leastPush 73 = .ok (.invokevirtual 276, 3) := by decide +kernel
theorem dX8_leastPush_76 : decode cX8_leastPush 76 = .ok (.ifCond .ne 14, 3) := by decide +kernel
theorem dX8_leastPush_79 : decode cX8_leastPush 79 = .ok (.aload_n 0, 1) := by decide +kernel
theorem dX8_leastPush_80 : decode cX8_leastPush 80 = .ok (.getfield 54, 3) := by decide +kernel
theorem dX8_leastPush_83 : decode cX8_leastPush 83 = .ok (.iconst 5, 1) := by decide +kernel
theorem dX8_leastPush_84 : decode cX8_leastPush 84 = .ok (.invokevirtual 276, 3) := by decide +kernel
theorem dX8_leastPush_87 : decode cX8_leastPush 87 = .ok (.ifCond .eq 7, 3) := by decide +kernel
theorem dX8_leastPush_90 : decode cX8_leastPush 90 = .ok (.iconst 1, 1) := by decide +kernel
theorem dX8_leastPush_91 : decode cX8_leastPush 91 = .ok (.goto 4, 3) := by decide +kernel
theorem dX8_leastPush_94 : decode cX8_leastPush 94 = .ok (.iconst 0, 1) := by decide +kernel
theorem dX8_leastPush_95 : decode cX8_leastPush 95 = .ok (.istore 6, 2) := by decide +kernel
theorem dX8_leastPush_97 : decode cX8_leastPush 97 = .ok (.iload_n 3, 1) := by decide +kernel
theorem dX8_leastPush_98 : decode cX8_leastPush 98 = .ok (.ifCond .eq 17, 3) := by decide +kernel
theorem dX8_leastPush_101 : decode cX8_leastPush 101 = .ok (.aload_n 0, 1) := by decide +kernel
theorem dX8_leastPush_102 : decode cX8_leastPush 102 = .ok (.getfield 54, 3) := by decide +kernel
theorem dX8_leastPush_105 : decode cX8_leastPush 105 = .ok (.iconst 1, 1) := by decide +kernel
theorem dX8_leastPush_106 : decode cX8_leastPush 106 = .ok (.invokevirtual 276, 3) := by decide +kernel
theorem dX8_leastPush_109 : decode cX8_leastPush 109 = .ok (.ifCond .eq 14, 3) := by decide +kernel
theorem dX8_leastPush_112 : decode cX8_leastPush 112 = .ok (.goto 8, 3) := by decide +kernel
theorem dX8_leastPush_115 : decode cX8_leastPush 115 = .ok (.iload 6, 2) := by decide +kernel
theorem dX8_leastPush_117 : decode cX8_leastPush 117 = .ok (.ifCond .ne 6, 3) := by decide +kernel
theorem dX8_leastPush_120 : decode cX8_leastPush 120 = .ok (.iload 5, 2) := by decide +kernel
theorem dX8_leastPush_122 : decode cX8_leastPush 122 = .ok (.ireturn, 1) := by decide +kernel
theorem dX8_leastPush_123 : decode cX8_leastPush 123 = .ok (.iinc 5 1, 3) := by decide +kernel
theorem dX8_leastPush_126 : decode cX8_leastPush 126 = .ok (.goto (-108), 3) := by decide +kernel
theorem dX8_leastPush_129 : decode cX8_leastPush 129 = .ok (.bipush (-9), 2) := by decide +kernel
theorem dX8_leastPush_131 : decode cX8_leastPush 131 = .ok (.ireturn, 1) := by decide +kernel
theorem dX8_bears_0 : decode cX8_bears 0 = .ok (.iload_n 1, 1) := by decide +kernel
theorem dX8_bears_1 : decode cX8_bears 1 = .ok (.iload_n 2, 1) := by decide +kernel
theorem dX8_bears_2 : decode cX8_bears 2 = .ok (.iload_n 3, 1) := by decide +kernel
theorem dX8_bears_3 : decode cX8_bears 3 = .ok (.iload 4, 2) := by decide +kernel
theorem dX8_bears_5 : decode cX8_bears 5 = .ok (.invokestatic 229, 3) := by decide +kernel
theorem dX8_bears_8 : decode cX8_bears 8 = .ok (.ifCond .ne 14, 3) := by decide +kernel
theorem dX8_bears_11 : decode cX8_bears 11 = .ok (.iload 5, 2) := by decide +kernel
theorem dX8_bears_13 : decode cX8_bears 13 = .ok (.iconst 0, 1) := by decide +kernel
theorem dX8_bears_14 : decode cX8_bears 14 = .ok (.bipush 99, 2) := by decide +kernel
theorem dX8_bears_16 : decode cX8_bears 16 = .ok (.invokestatic 90, 3) := by decide +kernel
theorem dX8_bears_19 : decode cX8_bears 19 = .ok (.ifCond .eq 5, 3) := by decide +kernel
theorem dX8_bears_22 : decode cX8_bears 22 = .ok (.iconst (-1), 1) := by decide +kernel
theorem dX8_bears_23 : decode cX8_bears 23 = .ok (.ireturn, 1) := by decide +kernel
theorem dX8_bears_24 : decode cX8_bears 24 = .ok (.aload_n 0, 1) := by decide +kernel
theorem dX8_bears_25 : decode cX8_bears 25 = .ok (.iload_n 1, 1) := by decide +kernel
theorem dX8_bears_26 : decode cX8_bears 26 = .ok (.iload_n 2, 1) := by decide +kernel
theorem dX8_bears_27 : decode cX8_bears 27 = .ok (.invokevirtual 263, 3) := by decide +kernel
theorem dX8_bears_30 : decode cX8_bears 30 = .ok (.ifCond .ne 9, 3) := by decide +kernel
theorem dX8_bears_33 : decode cX8_bears 33 = .ok (.aload_n 0, 1) := by decide +kernel
theorem dX8_bears_34 : decode cX8_bears 34 = .ok (.iconst 1, 1) := by decide +kernel
theorem dX8_bears_35 : decode cX8_bears 35 = .ok (.invokevirtual 150, 3) := by decide +kernel
theorem dX8_bears_38 : decode cX8_bears 38 = .ok (.ireturn, 1) := by decide +kernel
theorem dX8_bears_39 : decode cX8_bears 39 = .ok (.aload_n 0, 1) := by decide +kernel
theorem dX8_bears_40 : decode cX8_bears 40 = .ok (.iload_n 3, 1) := by decide +kernel
theorem dX8_bears_41 : decode cX8_bears 41 = .ok (.iload 4, 2) := by decide +kernel
theorem dX8_bears_43 : decode cX8_bears 43 = .ok (.iload 5, 2) := by decide +kernel
theorem dX8_bears_45 : decode cX8_bears 45 = .ok (.iconst 0, 1) := by decide +kernel
theorem dX8_bears_46 : decode cX8_bears 46 = .ok (.invokevirtual 341, 3) := by decide +kernel
theorem dX8_bears_49 : decode cX8_bears 49 = .ok (.ifCond .ne 6, 3) := by decide +kernel
theorem dX8_bears_52 : decode cX8_bears 52 = .ok (.bipush (-9), 2) := by decide +kernel
theorem dX8_bears_54 : decode cX8_bears 54 = .ok (.ireturn, 1) := by decide +kernel
theorem dX8_bears_55 : decode cX8_bears 55 = .ok (.bipush 99, 2) := by decide +kernel
theorem dX8_bears_57 : decode cX8_bears 57 = .ok (.istore 6, 2) := by decide +kernel
theorem dX8_bears_59 : decode cX8_bears 59 = .ok (.iload 6, 2) := by decide +kernel
theorem dX8_bears_61 : decode cX8_bears 61 = .ok (.ifCond .le 23, 3) := by decide +kernel
theorem dX8_bears_64 : decode cX8_bears 64 = .ok (.aload_n 0, 1) := by decide +kernel
theorem dX8_bears_65 : decode cX8_bears 65 = .ok (.iload_n 3, 1) := by decide +kernel
theorem dX8_bears_66 : decode cX8_bears 66 = .ok (.iload 4, 2) := by decide +kernel
theorem dX8_bears_68 : decode cX8_bears 68 = .ok (.iload 5, 2) := by decide +kernel
theorem dX8_bears_70 : decode cX8_bears 70 = .ok (.iload 6, 2) := by decide +kernel
theorem dX8_bears_72 : decode cX8_bears 72 = .ok (.invokevirtual 341, 3) := by decide +kernel
theorem dX8_bears_75 : decode cX8_bears 75 = .ok (.ifCond .ne 9, 3) := by decide +kernel
theorem dX8_bears_78 : decode cX8_bears 78 = .ok (.iinc 6 (-1), 3) := by decide +kernel
theorem dX8_bears_81 : decode cX8_bears 81 = .ok (.goto (-22), 3) := by decide +kernel
theorem dX8_bears_84 : decode cX8_bears 84 = .ok (.iload 6, 2) := by decide +kernel
theorem dX8_bears_86 : decode cX8_bears 86 = .ok (.ireturn, 1) := by decide +kernel
theorem dX8_bearsBump_0 : decode cX8_bearsBump 0 = .ok (.aload_n 0, 1) := by decide +kernel
theorem dX8_bearsBump_1 : decode cX8_bearsBump 1 = .ok (.getfield 54, 3) := by decide +kernel
theorem dX8_bearsBump_4 : decode cX8_bearsBump 4 = .ok (.getfield 115, 3) := by decide +kernel
theorem dX8_bearsBump_7 : decode cX8_bearsBump 7 = .ok (.astore 5, 2) := by decide +kernel
theorem dX8_bearsBump_9 : decode cX8_bearsBump 9 = .ok (.aload 5, 2) := by decide +kernel
theorem dX8_bearsBump_11 : decode cX8_bearsBump 11 = .ok (.getfield 124, 3) := by decide +kernel
theorem dX8_bearsBump_14 : decode cX8_bearsBump 14 = .ok (.getfield 344, 3) := by decide +kernel
theorem dX8_bearsBump_17 : decode cX8_bearsBump 17 = .ok (.iload_n 3, 1) := by decide +kernel
theorem dX8_bearsBump_18 : decode cX8_bearsBump 18 = .ok (.iload 4, 2) := by decide +kernel
theorem dX8_bearsBump_20 : decode cX8_bearsBump 20 = .ok (.iastore, 1) := by decide +kernel
theorem dX8_bearsBump_21 : decode cX8_bearsBump 21 = .ok (.aload 5, 2) := by decide +kernel
theorem dX8_bearsBump_23 : decode cX8_bearsBump 23 = .ok (.iload_n 1, 1) := by decide +kernel
theorem dX8_bearsBump_24 : decode cX8_bearsBump 24 = .ok (.iload_n 2, 1) := by decide +kernel
theorem dX8_bearsBump_25 : decode cX8_bearsBump 25 = .ok (.iconst 0, 1) := by decide +kernel
theorem dX8_bearsBump_26 : decode cX8_bearsBump 26 = .ok (.invokevirtual 233, 3) := by decide +kernel
theorem dX8_bearsBump_29 : decode cX8_bearsBump 29 = .ok (.aload 5, 2) := by decide +kernel
theorem dX8_bearsBump_31 : decode cX8_bearsBump 31 = .ok (.sipush 200, 3) := by decide +kernel
theorem dX8_bearsBump_34 : decode cX8_bearsBump 34 = .ok (.invokevirtual 244, 3) := by decide +kernel
theorem dX8_bearsBump_37 : decode cX8_bearsBump 37 = .ok (.pop, 1) := by decide +kernel
theorem dX8_bearsBump_38 : decode cX8_bearsBump 38 = .ok (.aload 5, 2) := by decide +kernel
theorem dX8_bearsBump_40 : decode cX8_bearsBump 40 = .ok (.getfield 346, 3) := by decide +kernel
theorem dX8_bearsBump_43 : decode cX8_bearsBump 43 = .ok (.ifCond .ne 7, 3) := by decide +kernel
theorem dX8_bearsBump_46 : decode cX8_bearsBump 46 = .ok (.iconst 1, 1) := by decide +kernel
theorem dX8_bearsBump_47 : decode cX8_bearsBump 47 = .ok (.goto 4, 3) := by decide +kernel
theorem dX8_bearsBump_50 : decode cX8_bearsBump 50 = .ok (.iconst 0, 1) := by decide +kernel
theorem dX8_bearsBump_51 : decode cX8_bearsBump 51 = .ok (.ireturn, 1) := by decide +kernel
theorem dX8_meets_0 : decode cX8_meets 0 = .ok (.iload_n 1, 1) := by decide +kernel
theorem dX8_meets_1 : decode cX8_meets 1 = .ok (.iload_n 3, 1) := by decide +kernel
theorem dX8_meets_2 : decode cX8_meets 2 = .ok (.iload 4, 2) := by decide +kernel
theorem dX8_meets_4 : decode cX8_meets 4 = .ok (.iload 5, 2) := by decide +kernel
theorem dX8_meets_6 : decode cX8_meets 6 = .ok (.invokestatic 229, 3) := by decide +kernel
theorem dX8_meets_9 : decode cX8_meets 9 = .ok (.ifCond .ne 10, 3) := by decide +kernel
theorem dX8_meets_12 : decode cX8_meets 12 = .ok (.iload_n 2, 1) := by decide +kernel
theorem dX8_meets_13 : decode cX8_meets 13 = .ok (.invokestatic 94, 3) := by decide +kernel
theorem dX8_meets_16 : decode cX8_meets 16 = .ok (.ifCond .eq 5, 3) := by decide +kernel
theorem dX8_meets_19 : decode cX8_meets 19 = .ok (.iconst (-1), 1) := by decide +kernel
theorem dX8_meets_20 : decode cX8_meets 20 = .ok (.ireturn, 1) := by decide +kernel
theorem dX8_meets_21 : decode cX8_meets 21 = .ok (.aload_n 0, 1) := by decide +kernel
theorem dX8_meets_22 : decode cX8_meets 22 = .ok (.getfield 23, 3) := by decide +kernel
theorem dX8_meets_25 : decode cX8_meets 25 = .ok (.iload_n 2, 1) := by decide +kernel
theorem dX8_meets_26 : decode cX8_meets 26 = .ok (.aaload, 1) := by decide +kernel
theorem dX8_meets_27 : decode cX8_meets 27 = .ok (.getfield 110, 3) := by decide +kernel
theorem dX8_meets_30 : decode cX8_meets 30 = .ok (.ifCond .eq 12, 3) := by decide +kernel
theorem dX8_meets_33 : decode cX8_meets 33 = .ok (.aload_n 0, 1) := by decide +kernel
theorem dX8_meets_34 : decode cX8_meets 34 = .ok (.iload_n 1, 1) := by decide +kernel
theorem dX8_meets_35 : decode cX8_meets 35 = .ok (.iload_n 3, 1) := by decide +kernel
theorem dX8_meets_36 : decode cX8_meets 36 = .ok (.invokevirtual 263, 3) := by decide +kernel
theorem dX8_meets_39 : decode cX8_meets 39 = .ok (.ifCond .ne 9, 3) := by decide +kernel
theorem dX8_meets_42 : decode cX8_meets 42 = .ok (.aload_n 0, 1) := by decide +kernel
theorem dX8_meets_43 : decode cX8_meets 43 = .ok (.iconst 1, 1) := by decide +kernel
theorem dX8_meets_44 : decode cX8_meets 44 = .ok (.invokevirtual 150, 3) := by decide +kernel
theorem dX8_meets_47 : decode cX8_meets 47 = .ok (.ireturn, 1) := by decide +kernel
theorem dX8_meets_48 : decode cX8_meets 48 = .ok (.aload_n 0, 1) := by decide +kernel
theorem dX8_meets_49 : decode cX8_meets 49 = .ok (.getfield 58, 3) := by decide +kernel
theorem dX8_meets_52 : decode cX8_meets 52 = .ok (.getfield 116, 3) := by decide +kernel
theorem dX8_meets_55 : decode cX8_meets 55 = .ok (.aload_n 0, 1) := by decide +kernel
theorem dX8_meets_56 : decode cX8_meets 56 = .ok (.getfield 23, 3) := by decide +kernel
theorem dX8_meets_59 : decode cX8_meets 59 = .ok (.iload_n 2, 1) := by decide +kernel
theorem dX8_meets_60 : decode cX8_meets 60 = .ok (.aaload, 1) := by decide +kernel
theorem dX8_meets_61 : decode cX8_meets 61 = .ok (.invokevirtual 120, 3) := by decide +kernel
theorem dX8_meets_64 : decode cX8_meets 64 = .ok (.aload_n 0, 1) := by decide +kernel
theorem dX8_meets_65 : decode cX8_meets 65 = .ok (.getfield 58, 3) := by decide +kernel
theorem dX8_meets_68 : decode cX8_meets 68 = .ok (.getfield 124, 3) := by decide +kernel
theorem dX8_meets_71 : decode cX8_meets 71 = .ok (.aload_n 0, 1) := by decide +kernel
theorem dX8_meets_72 : decode cX8_meets 72 = .ok (.getfield 54, 3) := by decide +kernel
theorem dX8_meets_75 : decode cX8_meets 75 = .ok (.getfield 115, 3) := by decide +kernel
theorem dX8_meets_78 : decode cX8_meets 78 = .ok (.getfield 124, 3) := by decide +kernel
theorem dX8_meets_81 : decode cX8_meets 81 = .ok (.invokevirtual 214, 3) := by decide +kernel
theorem dX8_meets_84 : decode cX8_meets 84 = .ok (.aload_n 0, 1) := by decide +kernel
theorem dX8_meets_85 : decode cX8_meets 85 = .ok (.getfield 54, 3) := by decide +kernel
theorem dX8_meets_88 : decode cX8_meets 88 = .ok (.getfield 115, 3) := by decide +kernel
theorem dX8_meets_91 : decode cX8_meets 91 = .ok (.iload 4, 2) := by decide +kernel
theorem dX8_meets_93 : decode cX8_meets 93 = .ok (.iload 5, 2) := by decide +kernel
theorem dX8_meets_95 : decode cX8_meets 95 = .ok (.iconst 0, 1) := by decide +kernel
theorem dX8_meets_96 : decode cX8_meets 96 = .ok (.invokevirtual 233, 3) := by decide +kernel
theorem dX8_meets_99 : decode cX8_meets 99 = .ok (.aload_n 0, 1) := by decide +kernel
theorem dX8_meets_100 : decode cX8_meets 100 = .ok (.getfield 58, 3) := by decide +kernel
theorem dX8_meets_103 : decode cX8_meets 103 = .ok (.iload 4, 2) := by decide +kernel
theorem dX8_meets_105 : decode cX8_meets 105 = .ok (.iload 5, 2) := by decide +kernel
theorem dX8_meets_107 : decode cX8_meets 107 = .ok (.iconst 0, 1) := by decide +kernel
theorem dX8_meets_108 : decode cX8_meets 108 = .ok (.invokevirtual 233, 3) := by decide +kernel
theorem dX8_meets_111 : decode cX8_meets 111 = .ok (.iconst 1, 1) := by decide +kernel
theorem dX8_meets_112 : decode cX8_meets 112 = .ok (.istore 6, 2) := by decide +kernel
theorem dX8_meets_114 : decode cX8_meets 114 = .ok (.iload 6, 2) := by decide +kernel
theorem dX8_meets_116 : decode cX8_meets 116 = .ok (.sipush 400, 3) := by decide +kernel
theorem dX8_meets_119 : decode cX8_meets 119 = .ok (.if_icmp .gt 77, 3) := by decide +kernel
theorem dX8_meets_122 : decode cX8_meets 122 = .ok (.aload_n 0, 1) := by decide +kernel
theorem dX8_meets_123 : decode cX8_meets 123 = .ok (.getfield 54, 3) := by decide +kernel
theorem dX8_meets_126 : decode cX8_meets 126 = .ok (.getfield 115, 3) := by decide +kernel
theorem dX8_meets_129 : decode cX8_meets 129 = .ok (.invokevirtual 248, 3) := by decide +kernel
theorem dX8_meets_132 : decode cX8_meets 132 = .ok (.pop, 1) := by decide +kernel
theorem dX8_meets_133 : decode cX8_meets 133 = .ok (.aload_n 0, 1) := by decide +kernel
theorem dX8_meets_134 : decode cX8_meets 134 = .ok (.getfield 58, 3) := by decide +kernel
theorem dX8_meets_137 : decode cX8_meets 137 = .ok (.invokevirtual 248, 3) := by decide +kernel
theorem dX8_meets_140 : decode cX8_meets 140 = .ok (.pop, 1) := by decide +kernel
theorem dX8_meets_141 : decode cX8_meets 141 = .ok (.aload_n 0, 1) := by decide +kernel
theorem dX8_meets_142 : decode cX8_meets 142 = .ok (.getfield 54, 3) := by decide +kernel
theorem dX8_meets_145 : decode cX8_meets 145 = .ok (.getfield 115, 3) := by decide +kernel
theorem dX8_meets_148 : decode cX8_meets 148 = .ok (.getfield 346, 3) := by decide +kernel
theorem dX8_meets_151 : decode cX8_meets 151 = .ok (.ifCond .ne 13, 3) := by decide +kernel
theorem dX8_meets_154 : decode cX8_meets 154 = .ok (.aload_n 0, 1) := by decide +kernel
theorem dX8_meets_155 : decode cX8_meets 155 = .ok (.getfield 58, 3) := by decide +kernel
theorem dX8_meets_158 : decode cX8_meets 158 = .ok (.getfield 346, 3) := by decide +kernel
theorem dX8_meets_161 : decode cX8_meets 161 = .ok (.ifCond .eq 6, 3) := by decide +kernel
theorem dX8_meets_164 : decode cX8_meets 164 = .ok (.bipush (-9), 2) := by decide +kernel
theorem dX8_meets_166 : decode cX8_meets 166 = .ok (.ireturn, 1) := by decide +kernel
theorem dX8_meets_167 : decode cX8_meets 167 = .ok (.aload_n 0, 1) := by decide +kernel
theorem dX8_meets_168 : decode cX8_meets 168 = .ok (.getfield 54, 3) := by decide +kernel
theorem dX8_meets_171 : decode cX8_meets 171 = .ok (.getfield 115, 3) := by decide +kernel
theorem dX8_meets_174 : decode cX8_meets 174 = .ok (.getfield 251, 3) := by decide +kernel
theorem dX8_meets_177 : decode cX8_meets 177 = .ok (.aload_n 0, 1) := by decide +kernel
theorem dX8_meets_178 : decode cX8_meets 178 = .ok (.getfield 58, 3) := by decide +kernel
theorem dX8_meets_181 : decode cX8_meets 181 = .ok (.getfield 251, 3) := by decide +kernel
theorem dX8_meets_184 : decode cX8_meets 184 = .ok (.if_icmp .ne 6, 3) := by decide +kernel
theorem dX8_meets_187 : decode cX8_meets 187 = .ok (.iload 6, 2) := by decide +kernel
theorem dX8_meets_189 : decode cX8_meets 189 = .ok (.ireturn, 1) := by decide +kernel
theorem dX8_meets_190 : decode cX8_meets 190 = .ok (.iinc 6 1, 3) := by decide +kernel
theorem dX8_meets_193 : decode cX8_meets 193 = .ok (.goto (-79), 3) := by decide +kernel
theorem dX8_meets_196 : decode cX8_meets 196 = .ok (.bipush (-9), 2) := by decide +kernel
theorem dX8_meets_198 : decode cX8_meets 198 = .ok (.ireturn, 1) := by decide +kernel
theorem dX8_asked_0 : decode cX8_asked 0 = .ok (.aload_n 0, 1) := by decide +kernel
theorem dX8_asked_1 : decode cX8_asked 1 = .ok (.getfield 76, 3) := by decide +kernel
theorem dX8_asked_4 : decode cX8_asked 4 = .ok (.ireturn, 1) := by decide +kernel
theorem dX8_upper_0 : decode cX8_upper 0 = .ok (.aload_n 0, 1) := by decide +kernel
theorem dX8_upper_1 : decode cX8_upper 1 = .ok (.getfield 79, 3) := by decide +kernel
theorem dX8_upper_4 : decode cX8_upper 4 = .ok (.lreturn, 1) := by decide +kernel
theorem dX8_lower_0 : decode cX8_lower 0 = .ok (.aload_n 0, 1) := by decide +kernel
theorem dX8_lower_1 : decode cX8_lower 1 = .ok (.getfield 83, 3) := by decide +kernel
theorem dX8_lower_4 : decode cX8_lower 4 = .ok (.lreturn, 1) := by decide +kernel
theorem dX8_count_0 : decode cX8_count 0 = .ok (.iload_n 1, 1) := by decide +kernel
theorem dX8_count_1 : decode cX8_count 1 = .ok (.iconst 0, 1) := by decide +kernel
theorem dX8_count_2 : decode cX8_count 2 = .ok (.bipush 6, 2) := by decide +kernel
theorem dX8_count_4 : decode cX8_count 4 = .ok (.invokestatic 90, 3) := by decide +kernel
theorem dX8_count_7 : decode cX8_count 7 = .ok (.ifCond .eq 5, 3) := by decide +kernel
theorem dX8_count_10 : decode cX8_count 10 = .ok (.iconst (-1), 1) := by decide +kernel
theorem dX8_count_11 : decode cX8_count 11 = .ok (.ireturn, 1) := by decide +kernel
theorem dX8_count_12 : decode cX8_count 12 = .ok (.aload_n 0, 1) := by decide +kernel
theorem dX8_count_13 : decode cX8_count 13 = .ok (.iload_n 1, 1) := by decide +kernel
theorem dX8_count_14 : decode cX8_count 14 = .ok (.invokevirtual 349, 3) := by decide +kernel
theorem dX8_count_17 : decode cX8_count 17 = .ok (.ireturn, 1) := by decide +kernel
theorem dX8_countOf_0 : decode cX8_countOf 0 = .ok (.iload_n 1, 1) := by decide +kernel
theorem dX8_countOf_1 : decode cX8_countOf 1 = .ok (.tableswitch 88 0 5 #[39, 45, 50, 56, 78, 83], 39) := by decide +kernel
theorem dX8_countOf_40 : decode cX8_countOf 40 = .ok (.aload_n 0, 1) := by decide +kernel
theorem dX8_countOf_41 : decode cX8_countOf 41 = .ok (.iconst 0, 1) := by decide +kernel
theorem dX8_countOf_42 : decode cX8_countOf 42 = .ok (.invokevirtual 352, 3) := by decide +kernel
theorem dX8_countOf_45 : decode cX8_countOf 45 = .ok (.ireturn, 1) := by decide +kernel
theorem dX8_countOf_46 : decode cX8_countOf 46 = .ok (.aload_n 0, 1) := by decide +kernel
theorem dX8_countOf_47 : decode cX8_countOf 47 = .ok (.invokevirtual 356, 3) := by decide +kernel
theorem dX8_countOf_50 : decode cX8_countOf 50 = .ok (.ireturn, 1) := by decide +kernel
theorem dX8_countOf_51 : decode cX8_countOf 51 = .ok (.aload_n 0, 1) := by decide +kernel
theorem dX8_countOf_52 : decode cX8_countOf 52 = .ok (.iconst 1, 1) := by decide +kernel
theorem dX8_countOf_53 : decode cX8_countOf 53 = .ok (.invokevirtual 352, 3) := by decide +kernel
theorem dX8_countOf_56 : decode cX8_countOf 56 = .ok (.ireturn, 1) := by decide +kernel
theorem dX8_countOf_57 : decode cX8_countOf 57 = .ok (.aload_n 0, 1) := by decide +kernel
theorem dX8_countOf_58 : decode cX8_countOf 58 = .ok (.getfield 36, 3) := by decide +kernel
theorem dX8_countOf_61 : decode cX8_countOf 61 = .ok (.getfield 237, 3) := by decide +kernel
theorem dX8_countOf_64 : decode cX8_countOf 64 = .ok (.ifCond .eq 13, 3) := by decide +kernel
theorem dX8_countOf_67 : decode cX8_countOf 67 = .ok (.aload_n 0, 1) := by decide +kernel
theorem dX8_countOf_68 : decode cX8_countOf 68 = .ok (.getfield 36, 3) := by decide +kernel
theorem dX8_countOf_71 : decode cX8_countOf 71 = .ok (.getfield 241, 3) := by decide +kernel
theorem dX8_countOf_74 : decode cX8_countOf 74 = .ok (.goto 4, 3) := by decide +kernel
theorem dX8_countOf_77 : decode cX8_countOf 77 = .ok (.iconst 0, 1) := by decide +kernel
theorem dX8_countOf_78 : decode cX8_countOf 78 = .ok (.ireturn, 1) := by decide +kernel
theorem dX8_countOf_79 : decode cX8_countOf 79 = .ok (.aload_n 0, 1) := by decide +kernel
theorem dX8_countOf_80 : decode cX8_countOf 80 = .ok (.invokevirtual 359, 3) := by decide +kernel
theorem dX8_countOf_83 : decode cX8_countOf 83 = .ok (.ireturn, 1) := by decide +kernel
theorem dX8_countOf_84 : decode cX8_countOf 84 = .ok (.aload_n 0, 1) := by decide +kernel
theorem dX8_countOf_85 : decode cX8_countOf 85 = .ok (.invokevirtual 362, 3) := by decide +kernel
theorem dX8_countOf_88 : decode cX8_countOf 88 = .ok (.ireturn, 1) := by decide +kernel
theorem dX8_countOf_89 : decode cX8_countOf 89 = .ok (.aload_n 0, 1) := by decide +kernel
theorem dX8_countOf_90 : decode cX8_countOf 90 = .ok (.invokevirtual 365, 3) := by decide +kernel
theorem dX8_countOf_93 : decode cX8_countOf 93 = .ok (.ireturn, 1) := by decide +kernel
theorem dX8_countDucks_0 : decode cX8_countDucks 0 = .ok (.iconst 0, 1) := by decide +kernel
theorem dX8_countDucks_1 : decode cX8_countDucks 1 = .ok (.istore_n 2, 1) := by decide +kernel
theorem dX8_countDucks_2 : decode cX8_countDucks 2 = .ok (.iconst 0, 1) := by decide +kernel
theorem dX8_countDucks_3 : decode cX8_countDucks 3 = .ok (.istore_n 3, 1) := by decide +kernel
theorem dX8_countDucks_4 : decode cX8_countDucks 4 = .ok (.iload_n 3, 1) := by decide +kernel
theorem dX8_countDucks_5 : decode cX8_countDucks 5 = .ok (.iconst 4, 1) := by decide +kernel
theorem dX8_countDucks_6 : decode cX8_countDucks 6 = .ok (.if_icmp .ge 40, 3) := by decide +kernel
theorem dX8_countDucks_9 : decode cX8_countDucks 9 = .ok (.aload_n 0, 1) := by decide +kernel
theorem dX8_countDucks_10 : decode cX8_countDucks 10 = .ok (.getfield 23, 3) := by decide +kernel
theorem dX8_countDucks_13 : decode cX8_countDucks 13 = .ok (.iload_n 3, 1) := by decide +kernel
theorem dX8_countDucks_14 : decode cX8_countDucks 14 = .ok (.aaload, 1) := by decide +kernel
theorem dX8_countDucks_15 : decode cX8_countDucks 15 = .ok (.getfield 110, 3) := by decide +kernel
theorem dX8_countDucks_18 : decode cX8_countDucks 18 = .ok (.ifCond .eq 22, 3) := by decide +kernel
theorem dX8_countDucks_21 : decode cX8_countDucks 21 = .ok (.iload_n 1, 1) := by decide +kernel
theorem dX8_countDucks_22 : decode cX8_countDucks 22 = .ok (.ifCond .eq 15, 3) := by decide +kernel
theorem dX8_countDucks_25 : decode cX8_countDucks 25 = .ok (.aload_n 0, 1) := by decide +kernel
theorem dX8_countDucks_26 : decode cX8_countDucks 26 = .ok (.getfield 23, 3) := by decide +kernel
theorem dX8_countDucks_29 : decode cX8_countDucks 29 = .ok (.iload_n 3, 1) := by decide +kernel
theorem dX8_countDucks_30 : decode cX8_countDucks 30 = .ok (.aaload, 1) := by decide +kernel
theorem dX8_countDucks_31 : decode cX8_countDucks 31 = .ok (.getfield 205, 3) := by decide +kernel
theorem dX8_countDucks_34 : decode cX8_countDucks 34 = .ok (.ifCond .eq 6, 3) := by decide +kernel
theorem dX8_countDucks_37 : decode cX8_countDucks 37 = .ok (.iinc 2 1, 3) := by decide +kernel
theorem dX8_countDucks_40 : decode cX8_countDucks 40 = .ok (.iinc 3 1, 3) := by decide +kernel
theorem dX8_countDucks_43 : decode cX8_countDucks 43 = .ok (.goto (-39), 3) := by decide +kernel
theorem dX8_countDucks_46 : decode cX8_countDucks 46 = .ok (.iload_n 2, 1) := by decide +kernel
theorem dX8_countDucks_47 : decode cX8_countDucks 47 = .ok (.ireturn, 1) := by decide +kernel
theorem dX8_countPlanks_0 : decode cX8_countPlanks 0 = .ok (.iconst 0, 1) := by decide +kernel
theorem dX8_countPlanks_1 : decode cX8_countPlanks 1 = .ok (.istore_n 1, 1) := by decide +kernel
theorem dX8_countPlanks_2 : decode cX8_countPlanks 2 = .ok (.iconst 0, 1) := by decide +kernel
theorem dX8_countPlanks_3 : decode cX8_countPlanks 3 = .ok (.istore_n 2, 1) := by decide +kernel
theorem dX8_countPlanks_4 : decode cX8_countPlanks 4 = .ok (.iload_n 2, 1) := by decide +kernel
theorem dX8_countPlanks_5 : decode cX8_countPlanks 5 = .ok (.iconst 4, 1) := by decide +kernel
theorem dX8_countPlanks_6 : decode cX8_countPlanks 6 = .ok (.if_icmp .ge 29, 3) := by decide +kernel
theorem dX8_countPlanks_9 : decode cX8_countPlanks 9 = .ok (.iload_n 1, 1) := by decide +kernel
theorem dX8_countPlanks_10 : decode cX8_countPlanks 10 = .ok (.aload_n 0, 1) := by decide +kernel
theorem dX8_countPlanks_11 : decode cX8_countPlanks 11 = .ok (.getfield 29, 3) := by decide +kernel
theorem dX8_countPlanks_14 : decode cX8_countPlanks 14 = .ok (.iload_n 2, 1) := by decide +kernel
theorem dX8_countPlanks_15 : decode cX8_countPlanks 15 = .ok (.aaload, 1) := by decide +kernel
theorem dX8_countPlanks_16 : decode cX8_countPlanks 16 = .ok (.getfield 114, 3) := by decide +kernel
theorem dX8_countPlanks_19 : decode cX8_countPlanks 19 = .ok (.ifCond .eq 7, 3) := by decide +kernel
theorem dX8_countPlanks_22 : decode cX8_countPlanks 22 = .ok (.iconst 1, 1) := by decide +kernel
theorem dX8_countPlanks_23 : decode cX8_countPlanks 23 = .ok (.goto 4, 3) := by decide +kernel
theorem dX8_countPlanks_26 : decode cX8_countPlanks 26 = .ok (.iconst 0, 1) := by decide +kernel
theorem dX8_countPlanks_27 : decode cX8_countPlanks 27 = .ok (.iadd, 1) := by decide +kernel
theorem dX8_countPlanks_28 : decode cX8_countPlanks 28 = .ok (.istore_n 1, 1) := by decide +kernel
theorem dX8_countPlanks_29 : decode cX8_countPlanks 29 = .ok (.iinc 2 1, 3) := by decide +kernel
theorem dX8_countPlanks_32 : decode cX8_countPlanks 32 = .ok (.goto (-28), 3) := by decide +kernel
theorem dX8_countPlanks_35 : decode cX8_countPlanks 35 = .ok (.iload_n 1, 1) := by decide +kernel
theorem dX8_countPlanks_36 : decode cX8_countPlanks 36 = .ok (.ireturn, 1) := by decide +kernel
theorem dX8_countKept_0 : decode cX8_countKept 0 = .ok (.iconst 0, 1) := by decide +kernel
theorem dX8_countKept_1 : decode cX8_countKept 1 = .ok (.istore_n 1, 1) := by decide +kernel
theorem dX8_countKept_2 : decode cX8_countKept 2 = .ok (.iconst 0, 1) := by decide +kernel
theorem dX8_countKept_3 : decode cX8_countKept 3 = .ok (.istore_n 2, 1) := by decide +kernel
theorem dX8_countKept_4 : decode cX8_countKept 4 = .ok (.iload_n 2, 1) := by decide +kernel
theorem dX8_countKept_5 : decode cX8_countKept 5 = .ok (.iconst 3, 1) := by decide +kernel
theorem dX8_countKept_6 : decode cX8_countKept 6 = .ok (.if_icmp .ge 29, 3) := by decide +kernel
theorem dX8_countKept_9 : decode cX8_countKept 9 = .ok (.iload_n 1, 1) := by decide +kernel
theorem dX8_countKept_10 : decode cX8_countKept 10 = .ok (.aload_n 0, 1) := by decide +kernel
theorem dX8_countKept_11 : decode cX8_countKept 11 = .ok (.getfield 40, 3) := by decide +kernel
theorem dX8_countKept_14 : decode cX8_countKept 14 = .ok (.iload_n 2, 1) := by decide +kernel
theorem dX8_countKept_15 : decode cX8_countKept 15 = .ok (.aaload, 1) := by decide +kernel
theorem dX8_countKept_16 : decode cX8_countKept 16 = .ok (.getfield 237, 3) := by decide +kernel
theorem dX8_countKept_19 : decode cX8_countKept 19 = .ok (.ifCond .eq 7, 3) := by decide +kernel
theorem dX8_countKept_22 : decode cX8_countKept 22 = .ok (.iconst 1, 1) := by decide +kernel
theorem dX8_countKept_23 : decode cX8_countKept 23 = .ok (.goto 4, 3) := by decide +kernel
theorem dX8_countKept_26 : decode cX8_countKept 26 = .ok (.iconst 0, 1) := by decide +kernel
theorem dX8_countKept_27 : decode cX8_countKept 27 = .ok (.iadd, 1) := by decide +kernel
theorem dX8_countKept_28 : decode cX8_countKept 28 = .ok (.istore_n 1, 1) := by decide +kernel
theorem dX8_countKept_29 : decode cX8_countKept 29 = .ok (.iinc 2 1, 3) := by decide +kernel
theorem dX8_countKept_32 : decode cX8_countKept 32 = .ok (.goto (-28), 3) := by decide +kernel
theorem dX8_countKept_35 : decode cX8_countKept 35 = .ok (.iload_n 1, 1) := by decide +kernel
theorem dX8_countKept_36 : decode cX8_countKept 36 = .ok (.ireturn, 1) := by decide +kernel
theorem dX8_countRows_0 : decode cX8_countRows 0 = .ok (.iconst 0, 1) := by decide +kernel
theorem dX8_countRows_1 : decode cX8_countRows 1 = .ok (.istore_n 1, 1) := by decide +kernel
theorem dX8_countRows_2 : decode cX8_countRows 2 = .ok (.iconst 0, 1) := by decide +kernel
theorem dX8_countRows_3 : decode cX8_countRows 3 = .ok (.istore_n 2, 1) := by decide +kernel
theorem dX8_countRows_4 : decode cX8_countRows 4 = .ok (.iload_n 2, 1) := by decide +kernel
theorem dX8_countRows_5 : decode cX8_countRows 5 = .ok (.bipush 6, 2) := by decide +kernel
theorem dX8_countRows_7 : decode cX8_countRows 7 = .ok (.if_icmp .ge 29, 3) := by decide +kernel
theorem dX8_countRows_10 : decode cX8_countRows 10 = .ok (.iload_n 1, 1) := by decide +kernel
theorem dX8_countRows_11 : decode cX8_countRows 11 = .ok (.aload_n 0, 1) := by decide +kernel
theorem dX8_countRows_12 : decode cX8_countRows 12 = .ok (.getfield 11, 3) := by decide +kernel
theorem dX8_countRows_15 : decode cX8_countRows 15 = .ok (.iload_n 2, 1) := by decide +kernel
theorem dX8_countRows_16 : decode cX8_countRows 16 = .ok (.aaload, 1) := by decide +kernel
theorem dX8_countRows_17 : decode cX8_countRows 17 = .ok (.invokevirtual 157, 3) := by decide +kernel
theorem dX8_countRows_20 : decode cX8_countRows 20 = .ok (.ifCond .eq 7, 3) := by decide +kernel
theorem dX8_countRows_23 : decode cX8_countRows 23 = .ok (.iconst 0, 1) := by decide +kernel
theorem dX8_countRows_24 : decode cX8_countRows 24 = .ok (.goto 4, 3) := by decide +kernel
theorem dX8_countRows_27 : decode cX8_countRows 27 = .ok (.iconst 1, 1) := by decide +kernel
theorem dX8_countRows_28 : decode cX8_countRows 28 = .ok (.iadd, 1) := by decide +kernel
theorem dX8_countRows_29 : decode cX8_countRows 29 = .ok (.istore_n 1, 1) := by decide +kernel
theorem dX8_countRows_30 : decode cX8_countRows 30 = .ok (.iinc 2 1, 3) := by decide +kernel
theorem dX8_countRows_33 : decode cX8_countRows 33 = .ok (.goto (-29), 3) := by decide +kernel
theorem dX8_countRows_36 : decode cX8_countRows 36 = .ok (.iload_n 1, 1) := by decide +kernel
theorem dX8_countRows_37 : decode cX8_countRows 37 = .ok (.ireturn, 1) := by decide +kernel
theorem dX8_countScripts_0 : decode cX8_countScripts 0 = .ok (.iconst 0, 1) := by decide +kernel
theorem dX8_countScripts_1 : decode cX8_countScripts 1 = .ok (.istore_n 1, 1) := by decide +kernel
theorem dX8_countScripts_2 : decode cX8_countScripts 2 = .ok (.iconst 0, 1) := by decide +kernel
theorem dX8_countScripts_3 : decode cX8_countScripts 3 = .ok (.istore_n 2, 1) := by decide +kernel
theorem dX8_countScripts_4 : decode cX8_countScripts 4 = .ok (.iload_n 2, 1) := by decide +kernel
theorem dX8_countScripts_5 : decode cX8_countScripts 5 = .ok (.iconst 4, 1) := by decide +kernel
theorem dX8_countScripts_6 : decode cX8_countScripts 6 = .ok (.if_icmp .ge 29, 3) := by decide +kernel
theorem dX8_countScripts_9 : decode cX8_countScripts 9 = .ok (.iload_n 1, 1) := by decide +kernel
theorem dX8_countScripts_10 : decode cX8_countScripts 10 = .ok (.aload_n 0, 1) := by decide +kernel
theorem dX8_countScripts_11 : decode cX8_countScripts 11 = .ok (.getfield 17, 3) := by decide +kernel
theorem dX8_countScripts_14 : decode cX8_countScripts 14 = .ok (.iload_n 2, 1) := by decide +kernel
theorem dX8_countScripts_15 : decode cX8_countScripts 15 = .ok (.aaload, 1) := by decide +kernel
theorem dX8_countScripts_16 : decode cX8_countScripts 16 = .ok (.invokevirtual 191, 3) := by decide +kernel
theorem dX8_countScripts_19 : decode cX8_countScripts 19 = .ok (.ifCond .eq 7, 3) := by decide +kernel
theorem dX8_countScripts_22 : decode cX8_countScripts 22 = .ok (.iconst 0, 1) := by decide +kernel
theorem dX8_countScripts_23 : decode cX8_countScripts 23 = .ok (.goto 4, 3) := by decide +kernel
theorem dX8_countScripts_26 : decode cX8_countScripts 26 = .ok (.iconst 1, 1) := by decide +kernel
theorem dX8_countScripts_27 : decode cX8_countScripts 27 = .ok (.iadd, 1) := by decide +kernel
theorem dX8_countScripts_28 : decode cX8_countScripts 28 = .ok (.istore_n 1, 1) := by decide +kernel
theorem dX8_countScripts_29 : decode cX8_countScripts 29 = .ok (.iinc 2 1, 3) := by decide +kernel
theorem dX8_countScripts_32 : decode cX8_countScripts 32 = .ok (.goto (-28), 3) := by decide +kernel
theorem dX8_countScripts_35 : decode cX8_countScripts 35 = .ok (.iload_n 1, 1) := by decide +kernel
theorem dX8_countScripts_36 : decode cX8_countScripts 36 = .ok (.ireturn, 1) := by decide +kernel
theorem dX8_finding_0 : decode cX8_finding 0 = .ok (.aload_n 0, 1) := by decide +kernel
theorem dX8_finding_1 : decode cX8_finding 1 = .ok (.getfield 72, 3) := by decide +kernel
theorem dX8_finding_4 : decode cX8_finding 4 = .ok (.ireturn, 1) := by decide +kernel
theorem dX8_findings_0 : decode cX8_findings 0 = .ok (.iload_n 1, 1) := by decide +kernel
theorem dX8_findings_1 : decode cX8_findings 1 = .ok (.iconst 1, 1) := by decide +kernel
theorem dX8_findings_2 : decode cX8_findings 2 = .ok (.iconst 5, 1) := by decide +kernel
theorem dX8_findings_3 : decode cX8_findings 3 = .ok (.invokestatic 90, 3) := by decide +kernel
theorem dX8_findings_6 : decode cX8_findings 6 = .ok (.ifCond .eq 5, 3) := by decide +kernel
theorem dX8_findings_9 : decode cX8_findings 9 = .ok (.iconst (-1), 1) := by decide +kernel
theorem dX8_findings_10 : decode cX8_findings 10 = .ok (.ireturn, 1) := by decide +kernel
theorem dX8_findings_11 : decode cX8_findings 11 = .ok (.aload_n 0, 1) := by decide +kernel
theorem dX8_findings_12 : decode cX8_findings 12 = .ok (.getfield 68, 3) := by decide +kernel
theorem dX8_findings_15 : decode cX8_findings 15 = .ok (.iload_n 1, 1) := by decide +kernel
theorem dX8_findings_16 : decode cX8_findings 16 = .ok (.iaload, 1) := by decide +kernel
theorem dX8_findings_17 : decode cX8_findings 17 = .ok (.ireturn, 1) := by decide +kernel
theorem dX8_digest_0 : decode cX8_digest 0 = .ok (.ldc2_w 368, 3) := by decide +kernel
theorem dX8_digest_3 : decode cX8_digest 3 = .ok (.lstore_n 1, 1) := by decide +kernel
theorem dX8_digest_4 : decode cX8_digest 4 = .ok (.iconst 0, 1) := by decide +kernel
theorem dX8_digest_5 : decode cX8_digest 5 = .ok (.istore_n 3, 1) := by decide +kernel
theorem dX8_digest_6 : decode cX8_digest 6 = .ok (.iload_n 3, 1) := by decide +kernel
theorem dX8_digest_7 : decode cX8_digest 7 = .ok (.bipush 6, 2) := by decide +kernel
theorem dX8_digest_9 : decode cX8_digest 9 = .ok (.if_icmp .gt 22, 3) := by decide +kernel
theorem dX8_digest_12 : decode cX8_digest 12 = .ok (.ldc2_w 370, 3) := by decide +kernel
theorem dX8_digest_15 : decode cX8_digest 15 = .ok (.lload_n 1, 1) := by decide +kernel
theorem dX8_digest_16 : decode cX8_digest 16 = .ok (.lmul, 1) := by decide +kernel
theorem dX8_digest_17 : decode cX8_digest 17 = .ok (.aload_n 0, 1) := by decide +kernel
theorem dX8_digest_18 : decode cX8_digest 18 = .ok (.iload_n 3, 1) := by decide +kernel
theorem dX8_digest_19 : decode cX8_digest 19 = .ok (.invokevirtual 349, 3) := by decide +kernel
theorem dX8_digest_22 : decode cX8_digest 22 = .ok (.i2l, 1) := by decide +kernel
theorem dX8_digest_23 : decode cX8_digest 23 = .ok (.ladd, 1) := by decide +kernel
theorem dX8_digest_24 : decode cX8_digest 24 = .ok (.lstore_n 1, 1) := by decide +kernel
theorem dX8_digest_25 : decode cX8_digest 25 = .ok (.iinc 3 1, 3) := by decide +kernel
theorem dX8_digest_28 : decode cX8_digest 28 = .ok (.goto (-22), 3) := by decide +kernel
theorem dX8_digest_31 : decode cX8_digest 31 = .ok (.iconst 0, 1) := by decide +kernel
theorem dX8_digest_32 : decode cX8_digest 32 = .ok (.istore_n 3, 1) := by decide +kernel
theorem dX8_digest_33 : decode cX8_digest 33 = .ok (.iload_n 3, 1) := by decide +kernel
theorem dX8_digest_34 : decode cX8_digest 34 = .ok (.iconst 4, 1) := by decide +kernel
theorem dX8_digest_35 : decode cX8_digest 35 = .ok (.if_icmp .ge 20, 3) := by decide +kernel
theorem dX8_digest_38 : decode cX8_digest 38 = .ok (.aload_n 0, 1) := by decide +kernel
theorem dX8_digest_39 : decode cX8_digest 39 = .ok (.getfield 23, 3) := by decide +kernel
theorem dX8_digest_42 : decode cX8_digest 42 = .ok (.iload_n 3, 1) := by decide +kernel
theorem dX8_digest_43 : decode cX8_digest 43 = .ok (.aaload, 1) := by decide +kernel
theorem dX8_digest_44 : decode cX8_digest 44 = .ok (.lload_n 1, 1) := by decide +kernel
theorem dX8_digest_45 : decode cX8_digest 45 = .ok (.invokevirtual 372, 3) := by decide +kernel
theorem dX8_digest_48 : decode cX8_digest 48 = .ok (.lstore_n 1, 1) := by decide +kernel
theorem dX8_digest_49 : decode cX8_digest 49 = .ok (.iinc 3 1, 3) := by decide +kernel
theorem dX8_digest_52 : decode cX8_digest 52 = .ok (.goto (-19), 3) := by decide +kernel
theorem dX8_digest_55 : decode cX8_digest 55 = .ok (.iconst 0, 1) := by decide +kernel
theorem dX8_digest_56 : decode cX8_digest 56 = .ok (.istore_n 3, 1) := by decide +kernel
theorem dX8_digest_57 : decode cX8_digest 57 = .ok (.iload_n 3, 1) := by decide +kernel
theorem dX8_digest_58 : decode cX8_digest 58 = .ok (.iconst 4, 1) := by decide +kernel
theorem dX8_digest_59 : decode cX8_digest 59 = .ok (.if_icmp .ge 20, 3) := by decide +kernel
theorem dX8_digest_62 : decode cX8_digest 62 = .ok (.aload_n 0, 1) := by decide +kernel
theorem dX8_digest_63 : decode cX8_digest 63 = .ok (.getfield 29, 3) := by decide +kernel
theorem dX8_digest_66 : decode cX8_digest 66 = .ok (.iload_n 3, 1) := by decide +kernel
theorem dX8_digest_67 : decode cX8_digest 67 = .ok (.aaload, 1) := by decide +kernel
theorem dX8_digest_68 : decode cX8_digest 68 = .ok (.lload_n 1, 1) := by decide +kernel
theorem dX8_digest_69 : decode cX8_digest 69 = .ok (.invokevirtual 376, 3) := by decide +kernel
theorem dX8_digest_72 : decode cX8_digest 72 = .ok (.lstore_n 1, 1) := by decide +kernel
theorem dX8_digest_73 : decode cX8_digest 73 = .ok (.iinc 3 1, 3) := by decide +kernel
theorem dX8_digest_76 : decode cX8_digest 76 = .ok (.goto (-19), 3) := by decide +kernel
theorem dX8_digest_79 : decode cX8_digest 79 = .ok (.aload_n 0, 1) := by decide +kernel
theorem dX8_digest_80 : decode cX8_digest 80 = .ok (.getfield 36, 3) := by decide +kernel
theorem dX8_digest_83 : decode cX8_digest 83 = .ok (.lload_n 1, 1) := by decide +kernel
theorem dX8_digest_84 : decode cX8_digest 84 = .ok (.invokevirtual 377, 3) := by decide +kernel
theorem dX8_digest_87 : decode cX8_digest 87 = .ok (.lstore_n 1, 1) := by decide +kernel
theorem dX8_digest_88 : decode cX8_digest 88 = .ok (.iconst 0, 1) := by decide +kernel
theorem dX8_digest_89 : decode cX8_digest 89 = .ok (.istore_n 3, 1) := by decide +kernel
theorem dX8_digest_90 : decode cX8_digest 90 = .ok (.iload_n 3, 1) := by decide +kernel
theorem dX8_digest_91 : decode cX8_digest 91 = .ok (.bipush 6, 2) := by decide +kernel
theorem dX8_digest_93 : decode cX8_digest 93 = .ok (.if_icmp .ge 20, 3) := by decide +kernel
theorem dX8_digest_96 : decode cX8_digest 96 = .ok (.aload_n 0, 1) := by decide +kernel
theorem dX8_digest_97 : decode cX8_digest 97 = .ok (.getfield 11, 3) := by decide +kernel
theorem dX8_digest_100 : decode cX8_digest 100 = .ok (.iload_n 3, 1) := by decide +kernel
theorem dX8_digest_101 : decode cX8_digest 101 = .ok (.aaload, 1) := by decide +kernel
theorem dX8_digest_102 : decode cX8_digest 102 = .ok (.lload_n 1, 1) := by decide +kernel
theorem dX8_digest_103 : decode cX8_digest 103 = .ok (.invokevirtual 378, 3) := by decide +kernel
theorem dX8_digest_106 : decode cX8_digest 106 = .ok (.lstore_n 1, 1) := by decide +kernel
theorem dX8_digest_107 : decode cX8_digest 107 = .ok (.iinc 3 1, 3) := by decide +kernel
theorem dX8_digest_110 : decode cX8_digest 110 = .ok (.goto (-20), 3) := by decide +kernel
theorem dX8_digest_113 : decode cX8_digest 113 = .ok (.iconst 0, 1) := by decide +kernel
theorem dX8_digest_114 : decode cX8_digest 114 = .ok (.istore_n 3, 1) := by decide +kernel
theorem dX8_digest_115 : decode cX8_digest 115 = .ok (.iload_n 3, 1) := by decide +kernel
theorem dX8_digest_116 : decode cX8_digest 116 = .ok (.iconst 4, 1) := by decide +kernel
theorem dX8_digest_117 : decode cX8_digest 117 = .ok (.if_icmp .ge 20, 3) := by decide +kernel
theorem dX8_digest_120 : decode cX8_digest 120 = .ok (.aload_n 0, 1) := by decide +kernel
theorem dX8_digest_121 : decode cX8_digest 121 = .ok (.getfield 17, 3) := by decide +kernel
theorem dX8_digest_124 : decode cX8_digest 124 = .ok (.iload_n 3, 1) := by decide +kernel
theorem dX8_digest_125 : decode cX8_digest 125 = .ok (.aaload, 1) := by decide +kernel
theorem dX8_digest_126 : decode cX8_digest 126 = .ok (.lload_n 1, 1) := by decide +kernel
theorem dX8_digest_127 : decode cX8_digest 127 = .ok (.invokevirtual 379, 3) := by decide +kernel
theorem dX8_digest_130 : decode cX8_digest 130 = .ok (.lstore_n 1, 1) := by decide +kernel
theorem dX8_digest_131 : decode cX8_digest 131 = .ok (.iinc 3 1, 3) := by decide +kernel
theorem dX8_digest_134 : decode cX8_digest 134 = .ok (.goto (-19), 3) := by decide +kernel
theorem dX8_digest_137 : decode cX8_digest 137 = .ok (.lload_n 1, 1) := by decide +kernel
theorem dX8_digest_138 : decode cX8_digest 138 = .ok (.lreturn, 1) := by decide +kernel
theorem dX9_init_0 : decode cX9_init 0 = .ok (.aload_n 0, 1) := by decide +kernel
theorem dX9_init_1 : decode cX9_init 1 = .ok (.invokespecial 1, 3) := by decide +kernel
theorem dX9_init_4 : decode cX9_init 4 = .ok (.aload_n 0, 1) := by decide +kernel
theorem dX9_init_5 : decode cX9_init 5 = .ok (.bipush 6, 2) := by decide +kernel
theorem dX9_init_7 : decode cX9_init 7 = .ok (.newarray .int, 2) := by decide +kernel
theorem dX9_init_9 : decode cX9_init 9 = .ok (.putfield 7, 3) := by decide +kernel
theorem dX9_init_12 : decode cX9_init 12 = .ok (.aload_n 0, 1) := by decide +kernel
theorem dX9_init_13 : decode cX9_init 13 = .ok (.bipush 6, 2) := by decide +kernel
theorem dX9_init_15 : decode cX9_init 15 = .ok (.newarray .int, 2) := by decide +kernel
theorem dX9_init_17 : decode cX9_init 17 = .ok (.putfield 13, 3) := by decide +kernel
theorem dX9_init_20 : decode cX9_init 20 = .ok (.aload_n 0, 1) := by decide +kernel
theorem dX9_init_21 : decode cX9_init 21 = .ok (.sipush 360, 3) := by decide +kernel
theorem dX9_init_24 : decode cX9_init 24 = .ok (.newarray .int, 2) := by decide +kernel
theorem dX9_init_26 : decode cX9_init 26 = .ok (.putfield 16, 3) := by decide +kernel
theorem dX9_init_29 : decode cX9_init 29 = .ok (.aload_n 0, 1) := by decide +kernel
theorem dX9_init_30 : decode cX9_init 30 = .ok (.bipush 60, 2) := by decide +kernel
theorem dX9_init_32 : decode cX9_init 32 = .ok (.newarray .int, 2) := by decide +kernel
theorem dX9_init_34 : decode cX9_init 34 = .ok (.putfield 19, 3) := by decide +kernel
theorem dX9_init_37 : decode cX9_init 37 = .ok (.aload_n 0, 1) := by decide +kernel
theorem dX9_init_38 : decode cX9_init 38 = .ok (.iconst 4, 1) := by decide +kernel
theorem dX9_init_39 : decode cX9_init 39 = .ok (.newarray .int, 2) := by decide +kernel
theorem dX9_init_41 : decode cX9_init 41 = .ok (.putfield 22, 3) := by decide +kernel
theorem dX9_init_44 : decode cX9_init 44 = .ok (.aload_n 0, 1) := by decide +kernel
theorem dX9_init_45 : decode cX9_init 45 = .ok (.sipush 320, 3) := by decide +kernel
theorem dX9_init_48 : decode cX9_init 48 = .ok (.newarray .byte, 2) := by decide +kernel
theorem dX9_init_50 : decode cX9_init 50 = .ok (.putfield 25, 3) := by decide +kernel
theorem dX9_init_53 : decode cX9_init 53 = .ok (.aload_n 0, 1) := by decide +kernel
theorem dX9_init_54 : decode cX9_init 54 = .ok (.iconst 4, 1) := by decide +kernel
theorem dX9_init_55 : decode cX9_init 55 = .ok (.newarray .boolean, 2) := by decide +kernel
theorem dX9_init_57 : decode cX9_init 57 = .ok (.putfield 29, 3) := by decide +kernel
theorem dX9_init_60 : decode cX9_init 60 = .ok (.aload_n 0, 1) := by decide +kernel
theorem dX9_init_61 : decode cX9_init 61 = .ok (.bipush 28, 2) := by decide +kernel
theorem dX9_init_63 : decode cX9_init 63 = .ok (.newarray .int, 2) := by decide +kernel
theorem dX9_init_65 : decode cX9_init 65 = .ok (.putfield 33, 3) := by decide +kernel
theorem dX9_init_68 : decode cX9_init 68 = .ok (.aload_n 0, 1) := by decide +kernel
theorem dX9_init_69 : decode cX9_init 69 = .ok (.iconst 4, 1) := by decide +kernel
theorem dX9_init_70 : decode cX9_init 70 = .ok (.newarray .boolean, 2) := by decide +kernel
theorem dX9_init_72 : decode cX9_init 72 = .ok (.putfield 36, 3) := by decide +kernel
theorem dX9_init_75 : decode cX9_init 75 = .ok (.aload_n 0, 1) := by decide +kernel
theorem dX9_init_76 : decode cX9_init 76 = .ok (.sipush 404, 3) := by decide +kernel
theorem dX9_init_79 : decode cX9_init 79 = .ok (.newarray .int, 2) := by decide +kernel
theorem dX9_init_81 : decode cX9_init 81 = .ok (.putfield 39, 3) := by decide +kernel
theorem dX9_init_84 : decode cX9_init 84 = .ok (.aload_n 0, 1) := by decide +kernel
theorem dX9_init_85 : decode cX9_init 85 = .ok (.bipush 7, 2) := by decide +kernel
theorem dX9_init_87 : decode cX9_init 87 = .ok (.newarray .int, 2) := by decide +kernel
theorem dX9_init_89 : decode cX9_init 89 = .ok (.putfield 42, 3) := by decide +kernel
theorem dX9_init_92 : decode cX9_init 92 = .ok (.aload_n 0, 1) := by decide +kernel
theorem dX9_init_93 : decode cX9_init 93 = .ok (.bipush 101, 2) := by decide +kernel
theorem dX9_init_95 : decode cX9_init 95 = .ok (.newarray .int, 2) := by decide +kernel
theorem dX9_init_97 : decode cX9_init 97 = .ok (.putfield 45, 3) := by decide +kernel
theorem dX9_init_100 : decode cX9_init 100 = .ok (.aload_n 0, 1) := by decide +kernel
theorem dX9_init_101 : decode cX9_init 101 = .ok (.bipush 6, 2) := by decide +kernel
theorem dX9_init_103 : decode cX9_init 103 = .ok (.newarray .int, 2) := by decide +kernel
theorem dX9_init_105 : decode cX9_init 105 = .ok (.putfield 48, 3) := by decide +kernel
theorem dX9_init_108 : decode cX9_init 108 = .ok (.aload_n 0, 1) := by decide +kernel
theorem dX9_init_109 : decode cX9_init 109 = .ok (.iconst 2, 1) := by decide +kernel
theorem dX9_init_110 : decode cX9_init 110 = .ok (.newarray .int, 2) := by decide +kernel
theorem dX9_init_112 : decode cX9_init 112 = .ok (.putfield 51, 3) := by decide +kernel
theorem dX9_init_115 : decode cX9_init 115 = .ok (.aload_n 0, 1) := by decide +kernel
theorem dX9_init_116 : decode cX9_init 116 = .ok (.iconst 4, 1) := by decide +kernel
theorem dX9_init_117 : decode cX9_init 117 = .ok (.newarray .boolean, 2) := by decide +kernel
theorem dX9_init_119 : decode cX9_init 119 = .ok (.putfield 54, 3) := by decide +kernel
theorem dX9_init_122 : decode cX9_init 122 = .ok (.aload_n 0, 1) := by decide +kernel
theorem dX9_init_123 : decode cX9_init 123 = .ok (.sipush 456, 3) := by decide +kernel
theorem dX9_init_126 : decode cX9_init 126 = .ok (.newarray .int, 2) := by decide +kernel
theorem dX9_init_128 : decode cX9_init 128 = .ok (.putfield 57, 3) := by decide +kernel
theorem dX9_init_131 : decode cX9_init 131 = .ok (.aload_n 0, 1) := by decide +kernel
theorem dX9_init_132 : decode cX9_init 132 = .ok (.sipush 400, 3) := by decide +kernel
theorem dX9_init_135 : decode cX9_init 135 = .ok (.newarray .int, 2) := by decide +kernel
theorem dX9_init_137 : decode cX9_init 137 = .ok (.putfield 60, 3) := by decide +kernel
theorem dX9_init_140 : decode cX9_init 140 = .ok (.aload_n 0, 1) := by decide +kernel
theorem dX9_init_141 : decode cX9_init 141 = .ok (.sipush 401, 3) := by decide +kernel
theorem dX9_init_144 : decode cX9_init 144 = .ok (.newarray .int, 2) := by decide +kernel
theorem dX9_init_146 : decode cX9_init 146 = .ok (.putfield 63, 3) := by decide +kernel
theorem dX9_init_149 : decode cX9_init 149 = .ok (.aload_n 0, 1) := by decide +kernel
theorem dX9_init_150 : decode cX9_init 150 = .ok (.sipush 400, 3) := by decide +kernel
theorem dX9_init_153 : decode cX9_init 153 = .ok (.newarray .boolean, 2) := by decide +kernel
theorem dX9_init_155 : decode cX9_init 155 = .ok (.putfield 66, 3) := by decide +kernel
theorem dX9_init_158 : decode cX9_init 158 = .ok (.aload_n 0, 1) := by decide +kernel
theorem dX9_init_159 : decode cX9_init 159 = .ok (.sipush 401, 3) := by decide +kernel
theorem dX9_init_162 : decode cX9_init 162 = .ok (.newarray .int, 2) := by decide +kernel
theorem dX9_init_164 : decode cX9_init 164 = .ok (.putfield 69, 3) := by decide +kernel
theorem dX9_init_167 : decode cX9_init 167 = .ok (.aload_n 0, 1) := by decide +kernel
theorem dX9_init_168 : decode cX9_init 168 = .ok (.lconst 1, 1) := by decide +kernel
theorem dX9_init_169 : decode cX9_init 169 = .ok (.putfield 72, 3) := by decide +kernel
theorem dX9_init_172 : decode cX9_init 172 = .ok (.iconst 0, 1) := by decide +kernel
theorem dX9_init_173 : decode cX9_init 173 = .ok (.istore_n 1, 1) := by decide +kernel
theorem dX9_init_174 : decode cX9_init 174 = .ok (.iload_n 1, 1) := by decide +kernel
theorem dX9_init_175 : decode cX9_init 175 = .ok (.bipush 6, 2) := by decide +kernel
theorem dX9_init_177 : decode cX9_init 177 = .ok (.if_icmp .ge 16, 3) := by decide +kernel
theorem dX9_init_180 : decode cX9_init 180 = .ok (.aload_n 0, 1) := by decide +kernel
theorem dX9_init_181 : decode cX9_init 181 = .ok (.getfield 13, 3) := by decide +kernel
theorem dX9_init_184 : decode cX9_init 184 = .ok (.iload_n 1, 1) := by decide +kernel
theorem dX9_init_185 : decode cX9_init 185 = .ok (.iconst (-1), 1) := by decide +kernel
theorem dX9_init_186 : decode cX9_init 186 = .ok (.iastore, 1) := by decide +kernel
theorem dX9_init_187 : decode cX9_init 187 = .ok (.iinc 1 1, 3) := by decide +kernel
theorem dX9_init_190 : decode cX9_init 190 = .ok (.goto (-16), 3) := by decide +kernel
theorem dX9_init_193 : decode cX9_init 193 = .ok (.iconst 0, 1) := by decide +kernel
theorem dX9_init_194 : decode cX9_init 194 = .ok (.istore_n 1, 1) := by decide +kernel
theorem dX9_init_195 : decode cX9_init 195 = .ok (.iload_n 1, 1) := by decide +kernel
theorem dX9_init_196 : decode cX9_init 196 = .ok (.iconst 4, 1) := by decide +kernel
theorem dX9_init_197 : decode cX9_init 197 = .ok (.if_icmp .ge 16, 3) := by decide +kernel
theorem dX9_init_200 : decode cX9_init 200 = .ok (.aload_n 0, 1) := by decide +kernel
theorem dX9_init_201 : decode cX9_init 201 = .ok (.getfield 22, 3) := by decide +kernel
theorem dX9_init_204 : decode cX9_init 204 = .ok (.iload_n 1, 1) := by decide +kernel
theorem dX9_init_205 : decode cX9_init 205 = .ok (.iconst (-1), 1) := by decide +kernel
theorem dX9_init_206 : decode cX9_init 206 = .ok (.iastore, 1) := by decide +kernel
theorem dX9_init_207 : decode cX9_init 207 = .ok (.iinc 1 1, 3) := by decide +kernel
theorem dX9_init_210 : decode cX9_init 210 = .ok (.goto (-15), 3) := by decide +kernel
theorem dX9_init_213 : decode cX9_init 213 = .ok (.return_, 1) := by decide +kernel
theorem dX9_in_0 : decode cX9_in 0 = .ok (.iload_n 0, 1) := by decide +kernel
theorem dX9_in_1 : decode cX9_in 1 = .ok (.iload_n 1, 1) := by decide +kernel
theorem dX9_in_2 : decode cX9_in 2 = .ok (.if_icmp .lt 12, 3) := by decide +kernel
theorem dX9_in_5 : decode cX9_in 5 = .ok (.iload_n 0, 1) := by decide +kernel
theorem dX9_in_6 : decode cX9_in 6 = .ok (.iload_n 2, 1) := by decide +kernel
theorem dX9_in_7 : decode cX9_in 7 = .ok (.if_icmp .gt 7, 3) := by decide +kernel
theorem dX9_in_10 : decode cX9_in 10 = .ok (.iconst 1, 1) := by decide +kernel
theorem dX9_in_11 : decode cX9_in 11 = .ok (.goto 4, 3) := by decide +kernel
theorem dX9_in_14 : decode cX9_in 14 = .ok (.iconst 0, 1) := by decide +kernel
theorem dX9_in_15 : decode cX9_in 15 = .ok (.ireturn, 1) := by decide +kernel
theorem dX9_lesser_0 : decode cX9_lesser 0 = .ok (.iload_n 0, 1) := by decide +kernel
theorem dX9_lesser_1 : decode cX9_lesser 1 = .ok (.iload_n 1, 1) := by decide +kernel
theorem dX9_lesser_2 : decode cX9_lesser 2 = .ok (.if_icmp .ge 7, 3) := by decide +kernel
theorem dX9_lesser_5 : decode cX9_lesser 5 = .ok (.iload_n 0, 1) := by decide +kernel
theorem dX9_lesser_6 : decode cX9_lesser 6 = .ok (.goto 4, 3) := by decide +kernel
theorem dX9_lesser_9 : decode cX9_lesser 9 = .ok (.iload_n 1, 1) := by decide +kernel
theorem dX9_lesser_10 : decode cX9_lesser 10 = .ok (.ireturn, 1) := by decide +kernel
theorem dX9_greater_0 : decode cX9_greater 0 = .ok (.iload_n 0, 1) := by decide +kernel
theorem dX9_greater_1 : decode cX9_greater 1 = .ok (.iload_n 1, 1) := by decide +kernel
theorem dX9_greater_2 : decode cX9_greater 2 = .ok (.if_icmp .le 7, 3) := by decide +kernel
theorem dX9_greater_5 : decode cX9_greater 5 = .ok (.iload_n 0, 1) := by decide +kernel
theorem dX9_greater_6 : decode cX9_greater 6 = .ok (.goto 4, 3) := by decide +kernel
theorem dX9_greater_9 : decode cX9_greater 9 = .ok (.iload_n 1, 1) := by decide +kernel
theorem dX9_greater_10 : decode cX9_greater 10 = .ok (.ireturn, 1) := by decide +kernel
theorem dX9_notes_0 : decode cX9_notes 0 = .ok (.aload_n 0, 1) := by decide +kernel
theorem dX9_notes_1 : decode cX9_notes 1 = .ok (.iload_n 1, 1) := by decide +kernel
theorem dX9_notes_2 : decode cX9_notes 2 = .ok (.putfield 76, 3) := by decide +kernel
theorem dX9_notes_5 : decode cX9_notes 5 = .ok (.aload_n 0, 1) := by decide +kernel
theorem dX9_notes_6 : decode cX9_notes 6 = .ok (.getfield 7, 3) := by decide +kernel
theorem dX9_notes_9 : decode cX9_notes 9 = .ok (.iload_n 1, 1) := by decide +kernel
theorem dX9_notes_10 : decode cX9_notes 10 = .ok (.dup2, 1) := by decide +kernel
theorem dX9_notes_11 : decode cX9_notes 11 = .ok (.iaload, 1) := by decide +kernel
theorem dX9_notes_12 : decode cX9_notes 12 = .ok (.iconst 1, 1) := by decide +kernel
theorem dX9_notes_13 : decode cX9_notes 13 = .ok (.iadd, 1) := by decide +kernel
theorem dX9_notes_14 : decode cX9_notes 14 = .ok (.iastore, 1) := by decide +kernel
theorem dX9_notes_15 : decode cX9_notes 15 = .ok (.bipush (-3), 2) := by decide +kernel
theorem dX9_notes_17 : decode cX9_notes 17 = .ok (.ireturn, 1) := by decide +kernel
theorem dX9_finding_0 : decode cX9_finding 0 = .ok (.aload_n 0, 1) := by decide +kernel
theorem dX9_finding_1 : decode cX9_finding 1 = .ok (.getfield 76, 3) := by decide +kernel
theorem dX9_finding_4 : decode cX9_finding 4 = .ok (.ireturn, 1) := by decide +kernel
theorem dX9_findings_0 : decode cX9_findings 0 = .ok (.iload_n 1, 1) := by decide +kernel
theorem dX9_findings_1 : decode cX9_findings 1 = .ok (.iconst 1, 1) := by decide +kernel
theorem dX9_findings_2 : decode cX9_findings 2 = .ok (.iconst 5, 1) := by decide +kernel
theorem dX9_findings_3 : decode cX9_findings 3 = .ok (.invokestatic 80, 3) := by decide +kernel
theorem dX9_findings_6 : decode cX9_findings 6 = .ok (.ifCond .eq 12, 3) := by decide +kernel
theorem dX9_findings_9 : decode cX9_findings 9 = .ok (.aload_n 0, 1) := by decide +kernel
theorem dX9_findings_10 : decode cX9_findings 10 = .ok (.getfield 7, 3) := by decide +kernel
theorem dX9_findings_13 : decode cX9_findings 13 = .ok (.iload_n 1, 1) := by decide +kernel
theorem dX9_findings_14 : decode cX9_findings 14 = .ok (.iaload, 1) := by decide +kernel
theorem dX9_findings_15 : decode cX9_findings 15 = .ok (.goto 4, 3) := by decide +kernel
theorem dX9_findings_18 : decode cX9_findings 18 = .ok (.iconst (-1), 1) := by decide +kernel
theorem dX9_findings_19 : decode cX9_findings 19 = .ok (.ireturn, 1) := by decide +kernel
theorem dX9_tells_0 : decode cX9_tells 0 = .ok (.aload_n 0, 1) := by decide +kernel
theorem dX9_tells_1 : decode cX9_tells 1 = .ok (.iload_n 1, 1) := by decide +kernel
theorem dX9_tells_2 : decode cX9_tells 2 = .ok (.putfield 84, 3) := by decide +kernel
theorem dX9_tells_5 : decode cX9_tells 5 = .ok (.iload_n 2, 1) := by decide +kernel
theorem dX9_tells_6 : decode cX9_tells 6 = .ok (.ireturn, 1) := by decide +kernel
theorem dX9_asked_0 : decode cX9_asked 0 = .ok (.aload_n 0, 1) := by decide +kernel
theorem dX9_asked_1 : decode cX9_asked 1 = .ok (.getfield 84, 3) := by decide +kernel
theorem dX9_asked_4 : decode cX9_asked 4 = .ok (.ireturn, 1) := by decide +kernel
theorem dX9_fraction_0 : decode cX9_fraction 0 = .ok (.lload_n 1, 1) := by decide +kernel
theorem dX9_fraction_1 : decode cX9_fraction 1 = .ok (.lstore 6, 2) := by decide +kernel
theorem dX9_fraction_3 : decode cX9_fraction 3 = .ok (.lload_n 3, 1) := by decide +kernel
theorem dX9_fraction_4 : decode cX9_fraction 4 = .ok (.lstore 8, 2) := by decide +kernel
theorem dX9_fraction_6 : decode cX9_fraction 6 = .ok (.lload 8, 2) := by decide +kernel
theorem dX9_fraction_8 : decode cX9_fraction 8 = .ok (.lconst 0, 1) := by decide +kernel
theorem dX9_fraction_9 : decode cX9_fraction 9 = .ok (.lcmp, 1) := by decide +kernel
theorem dX9_fraction_10 : decode cX9_fraction 10 = .ok (.ifCond .eq 21, 3) := by decide +kernel
theorem dX9_fraction_13 : decode cX9_fraction 13 = .ok (.lload 6, 2) := by decide +kernel
theorem dX9_fraction_15 : decode cX9_fraction 15 = .ok (.lload 8, 2) := by decide +kernel
theorem dX9_fraction_17 : decode cX9_fraction 17 = .ok (.lrem, 1) := by decide +kernel
theorem dX9_fraction_18 : decode cX9_fraction 18 = .ok (.lstore 10, 2) := by decide +kernel
theorem dX9_fraction_20 : decode cX9_fraction 20 = .ok (.lload 8, 2) := by decide +kernel
theorem dX9_fraction_22 : decode cX9_fraction 22 = .ok (.lstore 6, 2) := by decide +kernel
theorem dX9_fraction_24 : decode cX9_fraction 24 = .ok (.lload 10, 2) := by decide +kernel
theorem dX9_fraction_26 : decode cX9_fraction 26 = .ok (.lstore 8, 2) := by decide +kernel
theorem dX9_fraction_28 : decode cX9_fraction 28 = .ok (.goto (-22), 3) := by decide +kernel
theorem dX9_fraction_31 : decode cX9_fraction 31 = .ok (.aload_n 0, 1) := by decide +kernel
theorem dX9_fraction_32 : decode cX9_fraction 32 = .ok (.lload_n 1, 1) := by decide +kernel
theorem dX9_fraction_33 : decode cX9_fraction 33 = .ok (.lload 6, 2) := by decide +kernel
theorem dX9_fraction_35 : decode cX9_fraction 35 = .ok (.ldiv, 1) := by decide +kernel
theorem dX9_fraction_36 : decode cX9_fraction 36 = .ok (.putfield 87, 3) := by decide +kernel
theorem dX9_fraction_39 : decode cX9_fraction 39 = .ok (.aload_n 0, 1) := by decide +kernel
theorem dX9_fraction_40 : decode cX9_fraction 40 = .ok (.lload_n 3, 1) := by decide +kernel
theorem dX9_fraction_41 : decode cX9_fraction 41 = .ok (.lload 6, 2) := by decide +kernel
theorem dX9_fraction_43 : decode cX9_fraction 43 = .ok (.ldiv, 1) := by decide +kernel
theorem dX9_fraction_44 : decode cX9_fraction 44 = .ok (.putfield 72, 3) := by decide +kernel
theorem dX9_fraction_47 : decode cX9_fraction 47 = .ok (.iload 5, 2) := by decide +kernel
theorem dX9_fraction_49 : decode cX9_fraction 49 = .ok (.ireturn, 1) := by decide +kernel
theorem dX9_upper_0 : decode cX9_upper 0 = .ok (.aload_n 0, 1) := by decide +kernel
theorem dX9_upper_1 : decode cX9_upper 1 = .ok (.getfield 87, 3) := by decide +kernel
theorem dX9_upper_4 : decode cX9_upper 4 = .ok (.lreturn, 1) := by decide +kernel
theorem dX9_lower_0 : decode cX9_lower 0 = .ok (.aload_n 0, 1) := by decide +kernel
theorem dX9_lower_1 : decode cX9_lower 1 = .ok (.getfield 72, 3) := by decide +kernel
theorem dX9_lower_4 : decode cX9_lower 4 = .ok (.lreturn, 1) := by decide +kernel
theorem dX9_isRow_0 : decode cX9_isRow 0 = .ok (.iload_n 0, 1) := by decide +kernel
theorem dX9_isRow_1 : decode cX9_isRow 1 = .ok (.iconst 0, 1) := by decide +kernel
theorem dX9_isRow_2 : decode cX9_isRow 2 = .ok (.iconst 5, 1) := by decide +kernel
theorem dX9_isRow_3 : decode cX9_isRow 3 = .ok (.invokestatic 80, 3) := by decide +kernel
theorem dX9_isRow_6 : decode cX9_isRow 6 = .ok (.ireturn, 1) := by decide +kernel
theorem dX9_rowAt_0 : decode cX9_rowAt 0 = .ok (.aload_n 0, 1) := by decide +kernel
theorem dX9_rowAt_1 : decode cX9_rowAt 1 = .ok (.getfield 16, 3) := by decide +kernel
theorem dX9_rowAt_4 : decode cX9_rowAt 4 = .ok (.bipush 60, 2) := by decide +kernel
theorem dX9_rowAt_6 : decode cX9_rowAt 6 = .ok (.iload_n 1, 1) := by decide +kernel
theorem dX9_rowAt_7 : decode cX9_rowAt 7 = .ok (.imul, 1) := by decide +kernel
theorem dX9_rowAt_8 : decode cX9_rowAt 8 = .ok (.iload_n 2, 1) := by decide +kernel
theorem dX9_rowAt_9 : decode cX9_rowAt 9 = .ok (.iadd, 1) := by decide +kernel
theorem dX9_rowAt_10 : decode cX9_rowAt 10 = .ok (.iaload, 1) := by decide +kernel
theorem dX9_rowAt_11 : decode cX9_rowAt 11 = .ok (.ireturn, 1) := by decide +kernel
theorem dX9_row_0 : decode cX9_row 0 = .ok (.iload_n 1, 1) := by decide +kernel
theorem dX9_row_1 : decode cX9_row 1 = .ok (.invokestatic 90, 3) := by decide +kernel
theorem dX9_row_4 : decode cX9_row 4 = .ok (.ifCond .eq 9, 3) := by decide +kernel
theorem dX9_row_7 : decode cX9_row 7 = .ok (.iload_n 2, 1) := by decide +kernel
theorem dX9_row_8 : decode cX9_row 8 = .ok (.bipush 60, 2) := by decide +kernel
theorem dX9_row_10 : decode cX9_row 10 = .ok (.if_icmp .le 5, 3) := by decide +kernel
theorem dX9_row_13 : decode cX9_row 13 = .ok (.iconst (-1), 1) := by decide +kernel
theorem dX9_row_14 : decode cX9_row 14 = .ok (.ireturn, 1) := by decide +kernel
theorem dX9_row_15 : decode cX9_row 15 = .ok (.iload_n 2, 1) := by decide +kernel
theorem dX9_row_16 : decode cX9_row 16 = .ok (.ifCond .ge 9, 3) := by decide +kernel
theorem dX9_row_19 : decode cX9_row 19 = .ok (.aload_n 0, 1) := by decide +kernel
theorem dX9_row_20 : decode cX9_row 20 = .ok (.iconst 5, 1) := by decide +kernel
theorem dX9_row_21 : decode cX9_row 21 = .ok (.invokevirtual 94, 3) := by decide +kernel
theorem dX9_row_24 : decode cX9_row 24 = .ok (.ireturn, 1) := by decide +kernel
theorem dX9_row_25 : decode cX9_row 25 = .ok (.aload_n 0, 1) := by decide +kernel
theorem dX9_row_26 : decode cX9_row 26 = .ok (.getfield 13, 3) := by decide +kernel
theorem dX9_row_29 : decode cX9_row 29 = .ok (.iload_n 1, 1) := by decide +kernel
theorem dX9_row_30 : decode cX9_row 30 = .ok (.iload_n 2, 1) := by decide +kernel
theorem dX9_row_31 : decode cX9_row 31 = .ok (.iastore, 1) := by decide +kernel
theorem dX9_row_32 : decode cX9_row 32 = .ok (.iconst 0, 1) := by decide +kernel
theorem dX9_row_33 : decode cX9_row 33 = .ok (.istore_n 3, 1) := by decide +kernel
theorem dX9_row_34 : decode cX9_row 34 = .ok (.iload_n 3, 1) := by decide +kernel
theorem dX9_row_35 : decode cX9_row 35 = .ok (.bipush 60, 2) := by decide +kernel
theorem dX9_row_37 : decode cX9_row 37 = .ok (.if_icmp .ge 21, 3) := by decide +kernel
theorem dX9_row_40 : decode cX9_row 40 = .ok (.aload_n 0, 1) := by decide +kernel
theorem dX9_row_41 : decode cX9_row 41 = .ok (.getfield 16, 3) := by decide +kernel
theorem dX9_row_44 : decode cX9_row 44 = .ok (.bipush 60, 2) := by decide +kernel
theorem dX9_row_46 : decode cX9_row 46 = .ok (.iload_n 1, 1) := by decide +kernel
theorem dX9_row_47 : decode cX9_row 47 = .ok (.imul, 1) := by decide +kernel
theorem dX9_row_48 : decode cX9_row 48 = .ok (.iload_n 3, 1) := by decide +kernel
theorem dX9_row_49 : decode cX9_row 49 = .ok (.iadd, 1) := by decide +kernel
theorem dX9_row_50 : decode cX9_row 50 = .ok (.iconst 0, 1) := by decide +kernel
theorem dX9_row_51 : decode cX9_row 51 = .ok (.iastore, 1) := by decide +kernel
theorem dX9_row_52 : decode cX9_row 52 = .ok (.iinc 3 1, 3) := by decide +kernel
theorem dX9_row_55 : decode cX9_row 55 = .ok (.goto (-21), 3) := by decide +kernel
theorem dX9_row_58 : decode cX9_row 58 = .ok (.iload_n 2, 1) := by decide +kernel
theorem dX9_row_59 : decode cX9_row 59 = .ok (.ireturn, 1) := by decide +kernel
theorem dX9_lay_0 : decode cX9_lay 0 = .ok (.iload_n 1, 1) := by decide +kernel
theorem dX9_lay_1 : decode cX9_lay 1 = .ok (.invokestatic 90, 3) := by decide +kernel
theorem dX9_lay_4 : decode cX9_lay 4 = .ok (.ifCond .ne 5, 3) := by decide +kernel
theorem dX9_lay_7 : decode cX9_lay 7 = .ok (.iconst (-1), 1) := by decide +kernel
theorem dX9_lay_8 : decode cX9_lay 8 = .ok (.ireturn, 1) := by decide +kernel
theorem dX9_lay_9 : decode cX9_lay 9 = .ok (.aload_n 0, 1) := by decide +kernel
theorem dX9_lay_10 : decode cX9_lay 10 = .ok (.getfield 13, 3) := by decide +kernel
theorem dX9_lay_13 : decode cX9_lay 13 = .ok (.iload_n 1, 1) := by decide +kernel
theorem dX9_lay_14 : decode cX9_lay 14 = .ok (.iaload, 1) := by decide +kernel
theorem dX9_lay_15 : decode cX9_lay 15 = .ok (.ifCond .ge 9, 3) := by decide +kernel
theorem dX9_lay_18 : decode cX9_lay 18 = .ok (.aload_n 0, 1) := by decide +kernel
theorem dX9_lay_19 : decode cX9_lay 19 = .ok (.iconst 1, 1) := by decide +kernel
theorem dX9_lay_20 : decode cX9_lay 20 = .ok (.invokevirtual 94, 3) := by decide +kernel
theorem dX9_lay_23 : decode cX9_lay 23 = .ok (.ireturn, 1) := by decide +kernel
theorem dX9_lay_24 : decode cX9_lay 24 = .ok (.iload_n 2, 1) := by decide +kernel
theorem dX9_lay_25 : decode cX9_lay 25 = .ok (.iconst 0, 1) := by decide +kernel
theorem dX9_lay_26 : decode cX9_lay 26 = .ok (.aload_n 0, 1) := by decide +kernel
theorem dX9_lay_27 : decode cX9_lay 27 = .ok (.getfield 13, 3) := by decide +kernel
theorem dX9_lay_30 : decode cX9_lay 30 = .ok (.iload_n 1, 1) := by decide +kernel
theorem dX9_lay_31 : decode cX9_lay 31 = .ok (.iaload, 1) := by decide +kernel
theorem dX9_lay_32 : decode cX9_lay 32 = .ok (.iconst 1, 1) := by decide +kernel
theorem dX9_lay_33 : decode cX9_lay 33 = .ok (.isub, 1) := by decide +kernel
theorem dX9_lay_34 : decode cX9_lay 34 = .ok (.invokestatic 80, 3) := by decide +kernel
theorem dX9_lay_37 : decode cX9_lay 37 = .ok (.ifCond .ne 9, 3) := by decide +kernel
theorem dX9_lay_40 : decode cX9_lay 40 = .ok (.aload_n 0, 1) := by decide +kernel
theorem dX9_lay_41 : decode cX9_lay 41 = .ok (.iconst 2, 1) := by decide +kernel
theorem dX9_lay_42 : decode cX9_lay 42 = .ok (.invokevirtual 94, 3) := by decide +kernel
theorem dX9_lay_45 : decode cX9_lay 45 = .ok (.ireturn, 1) := by decide +kernel
theorem dX9_lay_46 : decode cX9_lay 46 = .ok (.aload_n 0, 1) := by decide +kernel
theorem dX9_lay_47 : decode cX9_lay 47 = .ok (.iload_n 1, 1) := by decide +kernel
theorem dX9_lay_48 : decode cX9_lay 48 = .ok (.iload_n 2, 1) := by decide +kernel
theorem dX9_lay_49 : decode cX9_lay 49 = .ok (.invokevirtual 98, 3) := by decide +kernel
theorem dX9_lay_52 : decode cX9_lay 52 = .ok (.istore 4, 2) := by decide +kernel
theorem dX9_lay_54 : decode cX9_lay 54 = .ok (.aload_n 0, 1) := by decide +kernel
theorem dX9_lay_55 : decode cX9_lay 55 = .ok (.getfield 16, 3) := by decide +kernel
theorem dX9_lay_58 : decode cX9_lay 58 = .ok (.bipush 60, 2) := by decide +kernel
theorem dX9_lay_60 : decode cX9_lay 60 = .ok (.iload_n 1, 1) := by decide +kernel
theorem dX9_lay_61 : decode cX9_lay 61 = .ok (.imul, 1) := by decide +kernel
theorem dX9_lay_62 : decode cX9_lay 62 = .ok (.iload_n 2, 1) := by decide +kernel
theorem dX9_lay_63 : decode cX9_lay 63 = .ok (.iadd, 1) := by decide +kernel
theorem dX9_lay_64 : decode cX9_lay 64 = .ok (.iload_n 3, 1) := by decide +kernel
theorem dX9_lay_65 : decode cX9_lay 65 = .ok (.iastore, 1) := by decide +kernel
theorem dX9_lay_66 : decode cX9_lay 66 = .ok (.aload_n 0, 1) := by decide +kernel
theorem dX9_lay_67 : decode cX9_lay 67 = .ok (.iload 4, 2) := by decide +kernel
theorem dX9_lay_69 : decode cX9_lay 69 = .ok (.iconst 1, 1) := by decide +kernel
theorem dX9_lay_70 : decode cX9_lay 70 = .ok (.invokevirtual 102, 3) := by decide +kernel
theorem dX9_lay_73 : decode cX9_lay 73 = .ok (.ireturn, 1) := by decide +kernel
theorem dX9_at_0 : decode cX9_at 0 = .ok (.iload_n 1, 1) := by decide +kernel
theorem dX9_at_1 : decode cX9_at 1 = .ok (.invokestatic 90, 3) := by decide +kernel
theorem dX9_at_4 : decode cX9_at 4 = .ok (.ifCond .ne 5, 3) := by decide +kernel
theorem dX9_at_7 : decode cX9_at 7 = .ok (.iconst (-1), 1) := by decide +kernel
theorem dX9_at_8 : decode cX9_at 8 = .ok (.ireturn, 1) := by decide +kernel
theorem dX9_at_9 : decode cX9_at 9 = .ok (.aload_n 0, 1) := by decide +kernel
theorem dX9_at_10 : decode cX9_at 10 = .ok (.getfield 13, 3) := by decide +kernel
theorem dX9_at_13 : decode cX9_at 13 = .ok (.iload_n 1, 1) := by decide +kernel
theorem dX9_at_14 : decode cX9_at 14 = .ok (.iaload, 1) := by decide +kernel
theorem dX9_at_15 : decode cX9_at 15 = .ok (.ifCond .ge 9, 3) := by decide +kernel
theorem dX9_at_18 : decode cX9_at 18 = .ok (.aload_n 0, 1) := by decide +kernel
theorem dX9_at_19 : decode cX9_at 19 = .ok (.iconst 1, 1) := by decide +kernel
theorem dX9_at_20 : decode cX9_at 20 = .ok (.invokevirtual 94, 3) := by decide +kernel
theorem dX9_at_23 : decode cX9_at 23 = .ok (.ireturn, 1) := by decide +kernel
theorem dX9_at_24 : decode cX9_at 24 = .ok (.iload_n 2, 1) := by decide +kernel
theorem dX9_at_25 : decode cX9_at 25 = .ok (.iconst 0, 1) := by decide +kernel
theorem dX9_at_26 : decode cX9_at 26 = .ok (.aload_n 0, 1) := by decide +kernel
theorem dX9_at_27 : decode cX9_at 27 = .ok (.getfield 13, 3) := by decide +kernel
theorem dX9_at_30 : decode cX9_at 30 = .ok (.iload_n 1, 1) := by decide +kernel
theorem dX9_at_31 : decode cX9_at 31 = .ok (.iaload, 1) := by decide +kernel
theorem dX9_at_32 : decode cX9_at 32 = .ok (.iconst 1, 1) := by decide +kernel
theorem dX9_at_33 : decode cX9_at 33 = .ok (.isub, 1) := by decide +kernel
theorem dX9_at_34 : decode cX9_at 34 = .ok (.invokestatic 80, 3) := by decide +kernel
theorem dX9_at_37 : decode cX9_at 37 = .ok (.ifCond .eq 17, 3) := by decide +kernel
theorem dX9_at_40 : decode cX9_at 40 = .ok (.aload_n 0, 1) := by decide +kernel
theorem dX9_at_41 : decode cX9_at 41 = .ok (.aload_n 0, 1) := by decide +kernel
theorem dX9_at_42 : decode cX9_at 42 = .ok (.iload_n 1, 1) := by decide +kernel
theorem dX9_at_43 : decode cX9_at 43 = .ok (.iload_n 2, 1) := by decide +kernel
theorem dX9_at_44 : decode cX9_at 44 = .ok (.invokevirtual 98, 3) := by decide +kernel
theorem dX9_at_47 : decode cX9_at 47 = .ok (.iconst 1, 1) := by decide +kernel
theorem dX9_at_48 : decode cX9_at 48 = .ok (.invokevirtual 102, 3) := by decide +kernel
theorem dX9_at_51 : decode cX9_at 51 = .ok (.goto 8, 3) := by decide +kernel
theorem dX9_at_54 : decode cX9_at 54 = .ok (.aload_n 0, 1) := by decide +kernel
theorem dX9_at_55 : decode cX9_at 55 = .ok (.iconst 2, 1) := by decide +kernel
theorem dX9_at_56 : decode cX9_at 56 = .ok (.invokevirtual 94, 3) := by decide +kernel
theorem dX9_at_59 : decode cX9_at 59 = .ok (.ireturn, 1) := by decide +kernel
theorem dX9_tear_0 : decode cX9_tear 0 = .ok (.iload_n 1, 1) := by decide +kernel
theorem dX9_tear_1 : decode cX9_tear 1 = .ok (.invokestatic 90, 3) := by decide +kernel
theorem dX9_tear_4 : decode cX9_tear 4 = .ok (.ifCond .ne 5, 3) := by decide +kernel
theorem dX9_tear_7 : decode cX9_tear 7 = .ok (.iconst (-1), 1) := by decide +kernel
theorem dX9_tear_8 : decode cX9_tear 8 = .ok (.ireturn, 1) := by decide +kernel
theorem dX9_tear_9 : decode cX9_tear 9 = .ok (.aload_n 0, 1) := by decide +kernel
theorem dX9_tear_10 : decode cX9_tear 10 = .ok (.getfield 13, 3) := by decide +kernel
theorem dX9_tear_13 : decode cX9_tear 13 = .ok (.iload_n 1, 1) := by decide +kernel
theorem dX9_tear_14 : decode cX9_tear 14 = .ok (.iaload, 1) := by decide +kernel
theorem dX9_tear_15 : decode cX9_tear 15 = .ok (.ifCond .ge 9, 3) := by decide +kernel
theorem dX9_tear_18 : decode cX9_tear 18 = .ok (.aload_n 0, 1) := by decide +kernel
theorem dX9_tear_19 : decode cX9_tear 19 = .ok (.iconst 1, 1) := by decide +kernel
theorem dX9_tear_20 : decode cX9_tear 20 = .ok (.invokevirtual 94, 3) := by decide +kernel
theorem dX9_tear_23 : decode cX9_tear 23 = .ok (.ireturn, 1) := by decide +kernel
theorem dX9_tear_24 : decode cX9_tear 24 = .ok (.aload_n 0, 1) := by decide +kernel
theorem dX9_tear_25 : decode cX9_tear 25 = .ok (.getfield 13, 3) := by decide +kernel
theorem dX9_tear_28 : decode cX9_tear 28 = .ok (.iload_n 1, 1) := by decide +kernel
theorem dX9_tear_29 : decode cX9_tear 29 = .ok (.iconst (-1), 1) := by decide +kernel
theorem dX9_tear_30 : decode cX9_tear 30 = .ok (.iastore, 1) := by decide +kernel
theorem dX9_tear_31 : decode cX9_tear 31 = .ok (.iconst 1, 1) := by decide +kernel
theorem dX9_tear_32 : decode cX9_tear 32 = .ok (.ireturn, 1) := by decide +kernel
theorem dX9_copy_0 : decode cX9_copy 0 = .ok (.iload_n 1, 1) := by decide +kernel
theorem dX9_copy_1 : decode cX9_copy 1 = .ok (.invokestatic 90, 3) := by decide +kernel
theorem dX9_copy_4 : decode cX9_copy 4 = .ok (.ifCond .eq 10, 3) := by decide +kernel
theorem dX9_copy_7 : decode cX9_copy 7 = .ok (.iload_n 3, 1) := by decide +kernel
theorem dX9_copy_8 : decode cX9_copy 8 = .ok (.invokestatic 90, 3) := by decide +kernel
theorem dX9_copy_11 : decode cX9_copy 11 = .ok (.ifCond .ne 5, 3) := by decide +kernel
theorem dX9_copy_14 : decode cX9_copy 14 = .ok (.iconst (-1), 1) := by decide +kernel
theorem dX9_copy_15 : decode cX9_copy 15 = .ok (.ireturn, 1) := by decide +kernel
theorem dX9_copy_16 : decode cX9_copy 16 = .ok (.iload 5, 2) := by decide +kernel
theorem dX9_copy_18 : decode cX9_copy 18 = .ok (.ifCond .ge 9, 3) := by decide +kernel
theorem dX9_copy_21 : decode cX9_copy 21 = .ok (.aload_n 0, 1) := by decide +kernel
theorem dX9_copy_22 : decode cX9_copy 22 = .ok (.iconst 5, 1) := by decide +kernel
theorem dX9_copy_23 : decode cX9_copy 23 = .ok (.invokevirtual 94, 3) := by decide +kernel
theorem dX9_copy_26 : decode cX9_copy 26 = .ok (.ireturn, 1) := by decide +kernel
theorem dX9_copy_27 : decode cX9_copy 27 = .ok (.aload_n 0, 1) := by decide +kernel
theorem dX9_copy_28 : decode cX9_copy 28 = .ok (.getfield 13, 3) := by decide +kernel
theorem dX9_copy_31 : decode cX9_copy 31 = .ok (.iload_n 1, 1) := by decide +kernel
theorem dX9_copy_32 : decode cX9_copy 32 = .ok (.iaload, 1) := by decide +kernel
theorem dX9_copy_33 : decode cX9_copy 33 = .ok (.ifCond .lt 12, 3) := by decide +kernel
theorem dX9_copy_36 : decode cX9_copy 36 = .ok (.aload_n 0, 1) := by decide +kernel
theorem dX9_copy_37 : decode cX9_copy 37 = .ok (.getfield 13, 3) := by decide +kernel
theorem dX9_copy_40 : decode cX9_copy 40 = .ok (.iload_n 3, 1) := by decide +kernel
theorem dX9_copy_41 : decode cX9_copy 41 = .ok (.iaload, 1) := by decide +kernel
theorem dX9_copy_42 : decode cX9_copy 42 = .ok (.ifCond .ge 9, 3) := by decide +kernel
theorem dX9_copy_45 : decode cX9_copy 45 = .ok (.aload_n 0, 1) := by decide +kernel
theorem dX9_copy_46 : decode cX9_copy 46 = .ok (.iconst 1, 1) := by decide +kernel
theorem dX9_copy_47 : decode cX9_copy 47 = .ok (.invokevirtual 94, 3) := by decide +kernel
theorem dX9_copy_50 : decode cX9_copy 50 = .ok (.ireturn, 1) := by decide +kernel
theorem dX9_copy_51 : decode cX9_copy 51 = .ok (.iload_n 2, 1) := by decide +kernel
theorem dX9_copy_52 : decode cX9_copy 52 = .ok (.ifCond .lt 43, 3) := by decide +kernel
theorem dX9_copy_55 : decode cX9_copy 55 = .ok (.iload 4, 2) := by decide +kernel
theorem dX9_copy_57 : decode cX9_copy 57 = .ok (.ifCond .lt 38, 3) := by decide +kernel
theorem dX9_copy_60 : decode cX9_copy 60 = .ok (.iload_n 2, 1) := by decide +kernel
theorem dX9_copy_61 : decode cX9_copy 61 = .ok (.i2l, 1) := by decide +kernel
theorem dX9_copy_62 : decode cX9_copy 62 = .ok (.iload 5, 2) := by decide +kernel
theorem dX9_copy_64 : decode cX9_copy 64 = .ok (.i2l, 1) := by decide +kernel
theorem dX9_copy_65 : decode cX9_copy 65 = .ok (.ladd, 1) := by decide +kernel
theorem dX9_copy_66 : decode cX9_copy 66 = .ok (.aload_n 0, 1) := by decide +kernel
theorem dX9_copy_67 : decode cX9_copy 67 = .ok (.getfield 13, 3) := by decide +kernel
theorem dX9_copy_70 : decode cX9_copy 70 = .ok (.iload_n 1, 1) := by decide +kernel
theorem dX9_copy_71 : decode cX9_copy 71 = .ok (.iaload, 1) := by decide +kernel
theorem dX9_copy_72 : decode cX9_copy 72 = .ok (.i2l, 1) := by decide +kernel
theorem dX9_copy_73 : decode cX9_copy 73 = .ok (.lcmp, 1) := by decide +kernel
theorem dX9_copy_74 : decode cX9_copy 74 = .ok (.ifCond .gt 21, 3) := by decide +kernel
theorem dX9_copy_77 : decode cX9_copy 77 = .ok (.iload 4, 2) := by decide +kernel
theorem dX9_copy_79 : decode cX9_copy 79 = .ok (.i2l, 1) := by decide +kernel
theorem dX9_copy_80 : decode cX9_copy 80 = .ok (.iload 5, 2) := by decide +kernel
theorem dX9_copy_82 : decode cX9_copy 82 = .ok (.i2l, 1) := by decide +kernel
theorem dX9_copy_83 : decode cX9_copy 83 = .ok (.ladd, 1) := by decide +kernel
theorem dX9_copy_84 : decode cX9_copy 84 = .ok (.aload_n 0, 1) := by decide +kernel
theorem dX9_copy_85 : decode cX9_copy 85 = .ok (.getfield 13, 3) := by decide +kernel
theorem dX9_copy_88 : decode cX9_copy 88 = .ok (.iload_n 3, 1) := by decide +kernel
theorem dX9_copy_89 : decode cX9_copy 89 = .ok (.iaload, 1) := by decide +kernel
theorem dX9_copy_90 : decode cX9_copy 90 = .ok (.i2l, 1) := by decide +kernel
theorem dX9_copy_91 : decode cX9_copy 91 = .ok (.lcmp, 1) := by decide +kernel
theorem dX9_copy_92 : decode cX9_copy 92 = .ok (.ifCond .le 9, 3) := by decide +kernel
theorem dX9_copy_95 : decode cX9_copy 95 = .ok (.aload_n 0, 1) := by decide +kernel
theorem dX9_copy_96 : decode cX9_copy 96 = .ok (.iconst 2, 1) := by decide +kernel
theorem dX9_copy_97 : decode cX9_copy 97 = .ok (.invokevirtual 94, 3) := by decide +kernel
theorem dX9_copy_100 : decode cX9_copy 100 = .ok (.ireturn, 1) := by decide +kernel
theorem dX9_copy_101 : decode cX9_copy 101 = .ok (.iconst 0, 1) := by decide +kernel
theorem dX9_copy_102 : decode cX9_copy 102 = .ok (.istore 6, 2) := by decide +kernel
theorem dX9_copy_104 : decode cX9_copy 104 = .ok (.iload 6, 2) := by decide +kernel
theorem dX9_copy_106 : decode cX9_copy 106 = .ok (.iload 5, 2) := by decide +kernel
theorem dX9_copy_108 : decode cX9_copy 108 = .ok (.if_icmp .ge 25, 3) := by decide +kernel
theorem dX9_copy_111 : decode cX9_copy 111 = .ok (.aload_n 0, 1) := by decide +kernel
theorem dX9_copy_112 : decode cX9_copy 112 = .ok (.getfield 19, 3) := by decide +kernel
theorem dX9_copy_115 : decode cX9_copy 115 = .ok (.iload 6, 2) := by decide +kernel
theorem dX9_copy_117 : decode cX9_copy 117 = .ok (.aload_n 0, 1) := by decide +kernel
theorem dX9_copy_118 : decode cX9_copy 118 = .ok (.iload_n 1, 1) := by decide +kernel
theorem dX9_copy_119 : decode cX9_copy 119 = .ok (.iload_n 2, 1) := by decide +kernel
theorem dX9_copy_120 : decode cX9_copy 120 = .ok (.iload 6, 2) := by decide +kernel
theorem dX9_copy_122 : decode cX9_copy 122 = .ok (.iadd, 1) := by decide +kernel
theorem dX9_copy_123 : decode cX9_copy 123 = .ok (.invokevirtual 98, 3) := by decide +kernel
theorem dX9_copy_126 : decode cX9_copy 126 = .ok (.iastore, 1) := by decide +kernel
theorem dX9_copy_127 : decode cX9_copy 127 = .ok (.iinc 6 1, 3) := by decide +kernel
theorem dX9_copy_130 : decode cX9_copy 130 = .ok (.goto (-26), 3) := by decide +kernel
theorem dX9_copy_133 : decode cX9_copy 133 = .ok (.iconst 0, 1) := by decide +kernel
theorem dX9_copy_134 : decode cX9_copy 134 = .ok (.istore 6, 2) := by decide +kernel
theorem dX9_copy_136 : decode cX9_copy 136 = .ok (.iload 6, 2) := by decide +kernel
theorem dX9_copy_138 : decode cX9_copy 138 = .ok (.iload 5, 2) := by decide +kernel
theorem dX9_copy_140 : decode cX9_copy 140 = .ok (.if_icmp .ge 31, 3) := by decide +kernel
theorem dX9_copy_143 : decode cX9_copy 143 = .ok (.aload_n 0, 1) := by decide +kernel
theorem dX9_copy_144 : decode cX9_copy 144 = .ok (.getfield 16, 3) := by decide +kernel
theorem dX9_copy_147 : decode cX9_copy 147 = .ok (.bipush 60, 2) := by decide +kernel
theorem dX9_copy_149 : decode cX9_copy 149 = .ok (.iload_n 3, 1) := by decide +kernel
theorem dX9_copy_150 : decode cX9_copy 150 = .ok (.imul, 1) := by decide +kernel
theorem dX9_copy_151 : decode cX9_copy 151 = .ok (.iload 4, 2) := by decide +kernel
theorem dX9_copy_153 : decode cX9_copy 153 = .ok (.iadd, 1) := by decide +kernel
theorem dX9_copy_154 : decode cX9_copy 154 = .ok (.iload 6, 2) := by decide +kernel
theorem dX9_copy_156 : decode cX9_copy 156 = .ok (.iadd, 1) := by decide +kernel
theorem dX9_copy_157 : decode cX9_copy 157 = .ok (.aload_n 0, 1) := by decide +kernel
theorem dX9_copy_158 : decode cX9_copy 158 = .ok (.getfield 19, 3) := by decide +kernel
theorem dX9_copy_161 : decode cX9_copy 161 = .ok (.iload 6, 2) := by decide +kernel
theorem dX9_copy_163 : decode cX9_copy 163 = .ok (.iaload, 1) := by decide +kernel
theorem dX9_copy_164 : decode cX9_copy 164 = .ok (.iastore, 1) := by decide +kernel
theorem dX9_copy_165 : decode cX9_copy 165 = .ok (.iinc 6 1, 3) := by decide +kernel
theorem dX9_copy_168 : decode cX9_copy 168 = .ok (.goto (-32), 3) := by decide +kernel
theorem dX9_copy_171 : decode cX9_copy 171 = .ok (.iconst 1, 1) := by decide +kernel
theorem dX9_copy_172 : decode cX9_copy 172 = .ok (.ireturn, 1) := by decide +kernel
theorem dX9_mean_0 : decode cX9_mean 0 = .ok (.iload_n 1, 1) := by decide +kernel
theorem dX9_mean_1 : decode cX9_mean 1 = .ok (.invokestatic 90, 3) := by decide +kernel
theorem dX9_mean_4 : decode cX9_mean 4 = .ok (.ifCond .ne 5, 3) := by decide +kernel
theorem dX9_mean_7 : decode cX9_mean 7 = .ok (.iconst (-1), 1) := by decide +kernel
theorem dX9_mean_8 : decode cX9_mean 8 = .ok (.ireturn, 1) := by decide +kernel
theorem dX9_mean_9 : decode cX9_mean 9 = .ok (.aload_n 0, 1) := by decide +kernel
theorem dX9_mean_10 : decode cX9_mean 10 = .ok (.getfield 13, 3) := by decide +kernel
theorem dX9_mean_13 : decode cX9_mean 13 = .ok (.iload_n 1, 1) := by decide +kernel
theorem dX9_mean_14 : decode cX9_mean 14 = .ok (.iaload, 1) := by decide +kernel
theorem dX9_mean_15 : decode cX9_mean 15 = .ok (.ifCond .ge 9, 3) := by decide +kernel
theorem dX9_mean_18 : decode cX9_mean 18 = .ok (.aload_n 0, 1) := by decide +kernel
theorem dX9_mean_19 : decode cX9_mean 19 = .ok (.iconst 1, 1) := by decide +kernel
theorem dX9_mean_20 : decode cX9_mean 20 = .ok (.invokevirtual 94, 3) := by decide +kernel
theorem dX9_mean_23 : decode cX9_mean 23 = .ok (.ireturn, 1) := by decide +kernel
theorem dX9_mean_24 : decode cX9_mean 24 = .ok (.aload_n 0, 1) := by decide +kernel
theorem dX9_mean_25 : decode cX9_mean 25 = .ok (.getfield 13, 3) := by decide +kernel
theorem dX9_mean_28 : decode cX9_mean 28 = .ok (.iload_n 1, 1) := by decide +kernel
theorem dX9_mean_29 : decode cX9_mean 29 = .ok (.iaload, 1) := by decide +kernel
theorem dX9_mean_30 : decode cX9_mean 30 = .ok (.ifCond .ne 9, 3) := by decide +kernel
theorem dX9_mean_33 : decode cX9_mean 33 = .ok (.aload_n 0, 1) := by decide +kernel
theorem dX9_mean_34 : decode cX9_mean 34 = .ok (.iconst 4, 1) := by decide +kernel
theorem dX9_mean_35 : decode cX9_mean 35 = .ok (.invokevirtual 94, 3) := by decide +kernel
theorem dX9_mean_38 : decode cX9_mean 38 = .ok (.ireturn, 1) := by decide +kernel
theorem dX9_mean_39 : decode cX9_mean 39 = .ok (.lconst 0, 1) := by decide +kernel
theorem dX9_mean_40 : decode cX9_mean 40 = .ok (.lstore_n 2, 1) := by decide +kernel
theorem dX9_mean_41 : decode cX9_mean 41 = .ok (.iconst 0, 1) := by decide +kernel
theorem dX9_mean_42 : decode cX9_mean 42 = .ok (.istore 4, 2) := by decide +kernel
theorem dX9_mean_44 : decode cX9_mean 44 = .ok (.iload 4, 2) := by decide +kernel
theorem dX9_mean_46 : decode cX9_mean 46 = .ok (.aload_n 0, 1) := by decide +kernel
theorem dX9_mean_47 : decode cX9_mean 47 = .ok (.getfield 13, 3) := by decide +kernel
theorem dX9_mean_50 : decode cX9_mean 50 = .ok (.iload_n 1, 1) := by decide +kernel
theorem dX9_mean_51 : decode cX9_mean 51 = .ok (.iaload, 1) := by decide +kernel
theorem dX9_mean_52 : decode cX9_mean 52 = .ok (.if_icmp .ge 20, 3) := by decide +kernel
theorem dX9_mean_55 : decode cX9_mean 55 = .ok (.lload_n 2, 1) := by decide +kernel
theorem dX9_mean_56 : decode cX9_mean 56 = .ok (.aload_n 0, 1) := by decide +kernel
theorem dX9_mean_57 : decode cX9_mean 57 = .ok (.iload_n 1, 1) := by decide +kernel
theorem dX9_mean_58 : decode cX9_mean 58 = .ok (.iload 4, 2) := by decide +kernel
theorem dX9_mean_60 : decode cX9_mean 60 = .ok (.invokevirtual 98, 3) := by decide +kernel
theorem dX9_mean_63 : decode cX9_mean 63 = .ok (.i2l, 1) := by decide +kernel
theorem dX9_mean_64 : decode cX9_mean 64 = .ok (.ladd, 1) := by decide +kernel
theorem dX9_mean_65 : decode cX9_mean 65 = .ok (.lstore_n 2, 1) := by decide +kernel
theorem dX9_mean_66 : decode cX9_mean 66 = .ok (.iinc 4 1, 3) := by decide +kernel
theorem dX9_mean_69 : decode cX9_mean 69 = .ok (.goto (-25), 3) := by decide +kernel
theorem dX9_mean_72 : decode cX9_mean 72 = .ok (.aload_n 0, 1) := by decide +kernel
theorem dX9_mean_73 : decode cX9_mean 73 = .ok (.lload_n 2, 1) := by decide +kernel
theorem dX9_mean_74 : decode cX9_mean 74 = .ok (.aload_n 0, 1) := by decide +kernel
theorem dX9_mean_75 : decode cX9_mean 75 = .ok (.getfield 13, 3) := by decide +kernel
theorem dX9_mean_78 : decode cX9_mean 78 = .ok (.iload_n 1, 1) := by decide +kernel
theorem dX9_mean_79 : decode cX9_mean 79 = .ok (.iaload, 1) := by decide +kernel
theorem dX9_mean_80 : decode cX9_mean 80 = .ok (.i2l, 1) := by decide +kernel
theorem dX9_mean_81 : decode cX9_mean 81 = .ok (.ldiv, 1) := by decide +kernel
theorem dX9_mean_82 : decode cX9_mean 82 = .ok (.l2i, 1) := by decide +kernel
theorem dX9_mean_83 : decode cX9_mean 83 = .ok (.iconst 1, 1) := by decide +kernel
theorem dX9_mean_84 : decode cX9_mean 84 = .ok (.invokevirtual 102, 3) := by decide +kernel
theorem dX9_mean_87 : decode cX9_mean 87 = .ok (.ireturn, 1) := by decide +kernel
theorem dX9_isText_0 : decode cX9_isText 0 = .ok (.iload_n 0, 1) := by decide +kernel
theorem dX9_isText_1 : decode cX9_isText 1 = .ok (.iconst 0, 1) := by decide +kernel
theorem dX9_isText_2 : decode cX9_isText 2 = .ok (.iconst 3, 1) := by decide +kernel
theorem dX9_isText_3 : decode cX9_isText 3 = .ok (.invokestatic 80, 3) := by decide +kernel
theorem dX9_isText_6 : decode cX9_isText 6 = .ok (.ireturn, 1) := by decide +kernel
theorem dX9_text_0 : decode cX9_text 0 = .ok (.iload_n 1, 1) := by decide +kernel
theorem dX9_text_1 : decode cX9_text 1 = .ok (.invokestatic 105, 3) := by decide +kernel
theorem dX9_text_4 : decode cX9_text 4 = .ok (.ifCond .eq 9, 3) := by decide +kernel
theorem dX9_text_7 : decode cX9_text 7 = .ok (.iload_n 2, 1) := by decide +kernel
theorem dX9_text_8 : decode cX9_text 8 = .ok (.bipush 80, 2) := by decide +kernel
theorem dX9_text_10 : decode cX9_text 10 = .ok (.if_icmp .le 5, 3) := by decide +kernel
theorem dX9_text_13 : decode cX9_text 13 = .ok (.iconst (-1), 1) := by decide +kernel
theorem dX9_text_14 : decode cX9_text 14 = .ok (.ireturn, 1) := by decide +kernel
theorem dX9_text_15 : decode cX9_text 15 = .ok (.iload_n 2, 1) := by decide +kernel
theorem dX9_text_16 : decode cX9_text 16 = .ok (.ifCond .ge 9, 3) := by decide +kernel
theorem dX9_text_19 : decode cX9_text 19 = .ok (.aload_n 0, 1) := by decide +kernel
theorem dX9_text_20 : decode cX9_text 20 = .ok (.iconst 5, 1) := by decide +kernel
theorem dX9_text_21 : decode cX9_text 21 = .ok (.invokevirtual 94, 3) := by decide +kernel
theorem dX9_text_24 : decode cX9_text 24 = .ok (.ireturn, 1) := by decide +kernel
theorem dX9_text_25 : decode cX9_text 25 = .ok (.aload_n 0, 1) := by decide +kernel
theorem dX9_text_26 : decode cX9_text 26 = .ok (.getfield 22, 3) := by decide +kernel
theorem dX9_text_29 : decode cX9_text 29 = .ok (.iload_n 1, 1) := by decide +kernel
theorem dX9_text_30 : decode cX9_text 30 = .ok (.iload_n 2, 1) := by decide +kernel
theorem dX9_text_31 : decode cX9_text 31 = .ok (.iastore, 1) := by decide +kernel
theorem dX9_text_32 : decode cX9_text 32 = .ok (.iconst 0, 1) := by decide +kernel
theorem dX9_text_33 : decode cX9_text 33 = .ok (.istore_n 3, 1) := by decide +kernel
theorem dX9_text_34 : decode cX9_text 34 = .ok (.iload_n 3, 1) := by decide +kernel
theorem dX9_text_35 : decode cX9_text 35 = .ok (.bipush 80, 2) := by decide +kernel
theorem dX9_text_37 : decode cX9_text 37 = .ok (.if_icmp .ge 22, 3) := by decide +kernel
theorem dX9_text_40 : decode cX9_text 40 = .ok (.aload_n 0, 1) := by decide +kernel
theorem dX9_text_41 : decode cX9_text 41 = .ok (.getfield 25, 3) := by decide +kernel
theorem dX9_text_44 : decode cX9_text 44 = .ok (.bipush 80, 2) := by decide +kernel
theorem dX9_text_46 : decode cX9_text 46 = .ok (.iload_n 1, 1) := by decide +kernel
theorem dX9_text_47 : decode cX9_text 47 = .ok (.imul, 1) := by decide +kernel
theorem dX9_text_48 : decode cX9_text 48 = .ok (.iload_n 3, 1) := by decide +kernel
theorem dX9_text_49 : decode cX9_text 49 = .ok (.iadd, 1) := by decide +kernel
theorem dX9_text_50 : decode cX9_text 50 = .ok (.bipush 32, 2) := by decide +kernel
theorem dX9_text_52 : decode cX9_text 52 = .ok (.bastore, 1) := by decide +kernel
theorem dX9_text_53 : decode cX9_text 53 = .ok (.iinc 3 1, 3) := by decide +kernel
theorem dX9_text_56 : decode cX9_text 56 = .ok (.goto (-22), 3) := by decide +kernel
theorem dX9_text_59 : decode cX9_text 59 = .ok (.iload_n 2, 1) := by decide +kernel
theorem dX9_text_60 : decode cX9_text 60 = .ok (.ireturn, 1) := by decide +kernel
theorem dX9_put_0 : decode cX9_put 0 = .ok (.iload_n 1, 1) := by decide +kernel
theorem dX9_put_1 : decode cX9_put 1 = .ok (.invokestatic 105, 3) := by decide +kernel
theorem dX9_put_4 : decode cX9_put 4 = .ok (.ifCond .ne 5, 3) := by decide +kernel
theorem dX9_put_7 : decode cX9_put 7 = .ok (.iconst (-1), 1) := by decide +kernel
theorem dX9_put_8 : decode cX9_put 8 = .ok (.ireturn, 1) := by decide +kernel
theorem dX9_put_9 : decode cX9_put 9 = .ok (.aload_n 0, 1) := by decide +kernel
theorem dX9_put_10 : decode cX9_put 10 = .ok (.getfield 22, 3) := by decide +kernel
theorem dX9_put_13 : decode cX9_put 13 = .ok (.iload_n 1, 1) := by decide +kernel
theorem dX9_put_14 : decode cX9_put 14 = .ok (.iaload, 1) := by decide +kernel
theorem dX9_put_15 : decode cX9_put 15 = .ok (.ifCond .ge 9, 3) := by decide +kernel
theorem dX9_put_18 : decode cX9_put 18 = .ok (.aload_n 0, 1) := by decide +kernel
theorem dX9_put_19 : decode cX9_put 19 = .ok (.iconst 1, 1) := by decide +kernel
theorem dX9_put_20 : decode cX9_put 20 = .ok (.invokevirtual 94, 3) := by decide +kernel
theorem dX9_put_23 : decode cX9_put 23 = .ok (.ireturn, 1) := by decide +kernel
theorem dX9_put_24 : decode cX9_put 24 = .ok (.iload_n 2, 1) := by decide +kernel
theorem dX9_put_25 : decode cX9_put 25 = .ok (.iconst 0, 1) := by decide +kernel
theorem dX9_put_26 : decode cX9_put 26 = .ok (.aload_n 0, 1) := by decide +kernel
theorem dX9_put_27 : decode cX9_put 27 = .ok (.getfield 22, 3) := by decide +kernel
theorem dX9_put_30 : decode cX9_put 30 = .ok (.iload_n 1, 1) := by decide +kernel
theorem dX9_put_31 : decode cX9_put 31 = .ok (.iaload, 1) := by decide +kernel
theorem dX9_put_32 : decode cX9_put 32 = .ok (.iconst 1, 1) := by decide +kernel
theorem dX9_put_33 : decode cX9_put 33 = .ok (.isub, 1) := by decide +kernel
theorem dX9_put_34 : decode cX9_put 34 = .ok (.invokestatic 80, 3) := by decide +kernel
theorem dX9_put_37 : decode cX9_put 37 = .ok (.ifCond .ne 9, 3) := by decide +kernel
theorem dX9_put_40 : decode cX9_put 40 = .ok (.aload_n 0, 1) := by decide +kernel
theorem dX9_put_41 : decode cX9_put 41 = .ok (.iconst 2, 1) := by decide +kernel
theorem dX9_put_42 : decode cX9_put 42 = .ok (.invokevirtual 94, 3) := by decide +kernel
theorem dX9_put_45 : decode cX9_put 45 = .ok (.ireturn, 1) := by decide +kernel
theorem dX9_put_46 : decode cX9_put 46 = .ok (.aload_n 0, 1) := by decide +kernel
theorem dX9_put_47 : decode cX9_put 47 = .ok (.getfield 25, 3) := by decide +kernel
theorem dX9_put_50 : decode cX9_put 50 = .ok (.bipush 80, 2) := by decide +kernel
theorem dX9_put_52 : decode cX9_put 52 = .ok (.iload_n 1, 1) := by decide +kernel
theorem dX9_put_53 : decode cX9_put 53 = .ok (.imul, 1) := by decide +kernel
theorem dX9_put_54 : decode cX9_put 54 = .ok (.iload_n 2, 1) := by decide +kernel
theorem dX9_put_55 : decode cX9_put 55 = .ok (.iadd, 1) := by decide +kernel
theorem dX9_put_56 : decode cX9_put 56 = .ok (.baload, 1) := by decide +kernel
theorem dX9_put_57 : decode cX9_put 57 = .ok (.istore 4, 2) := by decide +kernel
theorem dX9_put_59 : decode cX9_put 59 = .ok (.aload_n 0, 1) := by decide +kernel
theorem dX9_put_60 : decode cX9_put 60 = .ok (.getfield 25, 3) := by decide +kernel
theorem dX9_put_63 : decode cX9_put 63 = .ok (.bipush 80, 2) := by decide +kernel
theorem dX9_put_65 : decode cX9_put 65 = .ok (.iload_n 1, 1) := by decide +kernel
theorem dX9_put_66 : decode cX9_put 66 = .ok (.imul, 1) := by decide +kernel
theorem dX9_put_67 : decode cX9_put 67 = .ok (.iload_n 2, 1) := by decide +kernel
theorem dX9_put_68 : decode cX9_put 68 = .ok (.iadd, 1) := by decide +kernel
theorem dX9_put_69 : decode cX9_put 69 = .ok (.iload_n 3, 1) := by decide +kernel
theorem dX9_put_70 : decode cX9_put 70 = .ok (.i2b, 1) := by decide +kernel
theorem dX9_put_71 : decode cX9_put 71 = .ok (.bastore, 1) := by decide +kernel
theorem dX9_put_72 : decode cX9_put 72 = .ok (.sipush 1000, 3) := by decide +kernel
theorem dX9_put_75 : decode cX9_put 75 = .ok (.iload 4, 2) := by decide +kernel
theorem dX9_put_77 : decode cX9_put 77 = .ok (.iadd, 1) := by decide +kernel
theorem dX9_put_78 : decode cX9_put 78 = .ok (.ireturn, 1) := by decide +kernel
theorem dX9_byteAt_0 : decode cX9_byteAt 0 = .ok (.iload_n 2, 1) := by decide +kernel
theorem dX9_byteAt_1 : decode cX9_byteAt 1 = .ok (.aload_n 0, 1) := by decide +kernel
theorem dX9_byteAt_2 : decode cX9_byteAt 2 = .ok (.getfield 22, 3) := by decide +kernel
theorem dX9_byteAt_5 : decode cX9_byteAt 5 = .ok (.iload_n 1, 1) := by decide +kernel
theorem dX9_byteAt_6 : decode cX9_byteAt 6 = .ok (.iaload, 1) := by decide +kernel
theorem dX9_byteAt_7 : decode cX9_byteAt 7 = .ok (.if_icmp .ge 17, 3) := by decide +kernel
theorem dX9_byteAt_10 : decode cX9_byteAt 10 = .ok (.aload_n 0, 1) := by decide +kernel
theorem dX9_byteAt_11 : decode cX9_byteAt 11 = .ok (.getfield 25, 3) := by decide +kernel
theorem dX9_byteAt_14 : decode cX9_byteAt 14 = .ok (.bipush 80, 2) := by decide +kernel
theorem dX9_byteAt_16 : decode cX9_byteAt 16 = .ok (.iload_n 1, 1) := by decide +kernel
theorem dX9_byteAt_17 : decode cX9_byteAt 17 = .ok (.imul, 1) := by decide +kernel
theorem dX9_byteAt_18 : decode cX9_byteAt 18 = .ok (.iload_n 2, 1) := by decide +kernel
theorem dX9_byteAt_19 : decode cX9_byteAt 19 = .ok (.iadd, 1) := by decide +kernel
theorem dX9_byteAt_20 : decode cX9_byteAt 20 = .ok (.baload, 1) := by decide +kernel
theorem dX9_byteAt_21 : decode cX9_byteAt 21 = .ok (.goto 4, 3) := by decide +kernel
theorem dX9_byteAt_24 : decode cX9_byteAt 24 = .ok (.iconst 0, 1) := by decide +kernel
theorem dX9_byteAt_25 : decode cX9_byteAt 25 = .ok (.ireturn, 1) := by decide +kernel
theorem dX9_figure_0 : decode cX9_figure 0 = .ok (.aload_n 0, 1) := by decide +kernel
theorem dX9_figure_1 : decode cX9_figure 1 = .ok (.aload_n 0, 1) := by decide +kernel
theorem dX9_figure_2 : decode cX9_figure 2 = .ok (.iload_n 1, 1) := by decide +kernel
theorem dX9_figure_3 : decode cX9_figure 3 = .ok (.aload_n 0, 1) := by decide +kernel
theorem dX9_figure_4 : decode cX9_figure 4 = .ok (.getfield 108, 3) := by decide +kernel
theorem dX9_figure_7 : decode cX9_figure 7 = .ok (.invokevirtual 111, 3) := by decide +kernel
theorem dX9_figure_10 : decode cX9_figure 10 = .ok (.bipush 48, 2) := by decide +kernel
theorem dX9_figure_12 : decode cX9_figure 12 = .ok (.isub, 1) := by decide +kernel
theorem dX9_figure_13 : decode cX9_figure 13 = .ok (.putfield 114, 3) := by decide +kernel
theorem dX9_figure_16 : decode cX9_figure 16 = .ok (.aload_n 0, 1) := by decide +kernel
theorem dX9_figure_17 : decode cX9_figure 17 = .ok (.getfield 114, 3) := by decide +kernel
theorem dX9_figure_20 : decode cX9_figure 20 = .ok (.iload_n 2, 1) := by decide +kernel
theorem dX9_figure_21 : decode cX9_figure 21 = .ok (.bipush 9, 2) := by decide +kernel
theorem dX9_figure_23 : decode cX9_figure 23 = .ok (.invokestatic 80, 3) := by decide +kernel
theorem dX9_figure_26 : decode cX9_figure 26 = .ok (.istore_n 3, 1) := by decide +kernel
theorem dX9_figure_27 : decode cX9_figure 27 = .ok (.aload_n 0, 1) := by decide +kernel
theorem dX9_figure_28 : decode cX9_figure 28 = .ok (.dup, 1) := by decide +kernel
theorem dX9_figure_29 : decode cX9_figure 29 = .ok (.getfield 108, 3) := by decide +kernel
theorem dX9_figure_32 : decode cX9_figure 32 = .ok (.iload_n 3, 1) := by decide +kernel
theorem dX9_figure_33 : decode cX9_figure 33 = .ok (.ifCond .eq 7, 3) := by decide +kernel
theorem dX9_figure_36 : decode cX9_figure 36 = .ok (.iconst 1, 1) := by decide +kernel
theorem dX9_figure_37 : decode cX9_figure 37 = .ok (.goto 4, 3) := by decide +kernel
theorem dX9_figure_40 : decode cX9_figure 40 = .ok (.iconst 0, 1) := by decide +kernel
theorem dX9_figure_41 : decode cX9_figure 41 = .ok (.iadd, 1) := by decide +kernel
theorem dX9_figure_42 : decode cX9_figure 42 = .ok (.putfield 108, 3) := by decide +kernel
theorem dX9_figure_45 : decode cX9_figure 45 = .ok (.iload_n 3, 1) := by decide +kernel
theorem dX9_figure_46 : decode cX9_figure 46 = .ok (.ireturn, 1) := by decide +kernel
theorem dX9_itemOf_0 : decode cX9_itemOf 0 = .ok (.iload_n 0, 1) := by decide +kernel
theorem dX9_itemOf_1 : decode cX9_itemOf 1 = .ok (.tableswitch 91 104 119 #[83, 87, 89, 91, 85, 91, 91, 91, 91, 91, 81, 91, 91, 91, 91, 79], 79) := by decide +kernel
theorem dX9_itemOf_80 : decode cX9_itemOf 80 = .ok (.iconst 0, 1) := by decide +kernel
theorem dX9_itemOf_81 : decode cX9_itemOf 81 = .ok (.ireturn, 1) := by decide +kernel
theorem dX9_itemOf_82 : decode cX9_itemOf 82 = .ok (.iconst 1, 1) := by decide +kernel
theorem dX9_itemOf_83 : decode cX9_itemOf 83 = .ok (.ireturn, 1) := by decide +kernel
theorem dX9_itemOf_84 : decode cX9_itemOf 84 = .ok (.iconst 2, 1) := by decide +kernel
theorem dX9_itemOf_85 : decode cX9_itemOf 85 = .ok (.ireturn, 1) := by decide +kernel
theorem dX9_itemOf_86 : decode cX9_itemOf 86 = .ok (.iconst 3, 1) := by decide +kernel
theorem dX9_itemOf_87 : decode cX9_itemOf 87 = .ok (.ireturn, 1) := by decide +kernel
theorem dX9_itemOf_88 : decode cX9_itemOf 88 = .ok (.iconst 4, 1) := by decide +kernel
theorem dX9_itemOf_89 : decode cX9_itemOf 89 = .ok (.ireturn, 1) := by decide +kernel
theorem dX9_itemOf_90 : decode cX9_itemOf 90 = .ok (.iconst 5, 1) := by decide +kernel
theorem dX9_itemOf_91 : decode cX9_itemOf 91 = .ok (.ireturn, 1) := by decide +kernel
theorem dX9_itemOf_92 : decode cX9_itemOf 92 = .ok (.bipush (-9), 2) := by decide +kernel
theorem dX9_itemOf_94 : decode cX9_itemOf 94 = .ok (.ireturn, 1) := by decide +kernel
theorem dX9_readsSize_0 : decode cX9_readsSize 0 = .ok (.aload_n 0, 1) := by decide +kernel
theorem dX9_readsSize_1 : decode cX9_readsSize 1 = .ok (.iload_n 1, 1) := by decide +kernel
theorem dX9_readsSize_2 : decode cX9_readsSize 2 = .ok (.aload_n 0, 1) := by decide +kernel
theorem dX9_readsSize_3 : decode cX9_readsSize 3 = .ok (.getfield 108, 3) := by decide +kernel
theorem dX9_readsSize_6 : decode cX9_readsSize 6 = .ok (.invokevirtual 111, 3) := by decide +kernel
theorem dX9_readsSize_9 : decode cX9_readsSize 9 = .ok (.invokestatic 117, 3) := by decide +kernel
theorem dX9_readsSize_12 : decode cX9_readsSize 12 = .ok (.istore_n 2, 1) := by decide +kernel
theorem dX9_readsSize_13 : decode cX9_readsSize 13 = .ok (.iload_n 2, 1) := by decide +kernel
theorem dX9_readsSize_14 : decode cX9_readsSize 14 = .ok (.bipush (-9), 2) := by decide +kernel
theorem dX9_readsSize_16 : decode cX9_readsSize 16 = .ok (.if_icmp .ne 5, 3) := by decide +kernel
theorem dX9_readsSize_19 : decode cX9_readsSize 19 = .ok (.iconst 0, 1) := by decide +kernel
theorem dX9_readsSize_20 : decode cX9_readsSize 20 = .ok (.ireturn, 1) := by decide +kernel
theorem dX9_readsSize_21 : decode cX9_readsSize 21 = .ok (.aload_n 0, 1) := by decide +kernel
theorem dX9_readsSize_22 : decode cX9_readsSize 22 = .ok (.dup, 1) := by decide +kernel
theorem dX9_readsSize_23 : decode cX9_readsSize 23 = .ok (.getfield 108, 3) := by decide +kernel
theorem dX9_readsSize_26 : decode cX9_readsSize 26 = .ok (.iconst 1, 1) := by decide +kernel
theorem dX9_readsSize_27 : decode cX9_readsSize 27 = .ok (.iadd, 1) := by decide +kernel
theorem dX9_readsSize_28 : decode cX9_readsSize 28 = .ok (.putfield 108, 3) := by decide +kernel
theorem dX9_readsSize_31 : decode cX9_readsSize 31 = .ok (.iload_n 2, 1) := by decide +kernel
theorem dX9_readsSize_32 : decode cX9_readsSize 32 = .ok (.iconst 4, 1) := by decide +kernel
theorem dX9_readsSize_33 : decode cX9_readsSize 33 = .ok (.if_icmp .ge 49, 3) := by decide +kernel
theorem dX9_readsSize_36 : decode cX9_readsSize 36 = .ok (.aload_n 0, 1) := by decide +kernel
theorem dX9_readsSize_37 : decode cX9_readsSize 37 = .ok (.iload_n 1, 1) := by decide +kernel
theorem dX9_readsSize_38 : decode cX9_readsSize 38 = .ok (.aload_n 0, 1) := by decide +kernel
theorem dX9_readsSize_39 : decode cX9_readsSize 39 = .ok (.getfield 108, 3) := by decide +kernel
theorem dX9_readsSize_42 : decode cX9_readsSize 42 = .ok (.invokevirtual 111, 3) := by decide +kernel
theorem dX9_readsSize_45 : decode cX9_readsSize 45 = .ok (.bipush 63, 2) := by decide +kernel
theorem dX9_readsSize_47 : decode cX9_readsSize 47 = .ok (.if_icmp .ne 35, 3) := by decide +kernel
theorem dX9_readsSize_50 : decode cX9_readsSize 50 = .ok (.aload_n 0, 1) := by decide +kernel
theorem dX9_readsSize_51 : decode cX9_readsSize 51 = .ok (.dup, 1) := by decide +kernel
theorem dX9_readsSize_52 : decode cX9_readsSize 52 = .ok (.getfield 108, 3) := by decide +kernel
theorem dX9_readsSize_55 : decode cX9_readsSize 55 = .ok (.iconst 1, 1) := by decide +kernel
theorem dX9_readsSize_56 : decode cX9_readsSize 56 = .ok (.iadd, 1) := by decide +kernel
theorem dX9_readsSize_57 : decode cX9_readsSize 57 = .ok (.putfield 108, 3) := by decide +kernel
theorem dX9_readsSize_60 : decode cX9_readsSize 60 = .ok (.aload_n 0, 1) := by decide +kernel
theorem dX9_readsSize_61 : decode cX9_readsSize 61 = .ok (.getfield 42, 3) := by decide +kernel
theorem dX9_readsSize_64 : decode cX9_readsSize 64 = .ok (.iload_n 2, 1) := by decide +kernel
theorem dX9_readsSize_65 : decode cX9_readsSize 65 = .ok (.iconst 5, 1) := by decide +kernel
theorem dX9_readsSize_66 : decode cX9_readsSize 66 = .ok (.iastore, 1) := by decide +kernel
theorem dX9_readsSize_67 : decode cX9_readsSize 67 = .ok (.aload_n 0, 1) := by decide +kernel
theorem dX9_readsSize_68 : decode cX9_readsSize 68 = .ok (.getfield 42, 3) := by decide +kernel
theorem dX9_readsSize_71 : decode cX9_readsSize 71 = .ok (.bipush 6, 2) := by decide +kernel
theorem dX9_readsSize_73 : decode cX9_readsSize 73 = .ok (.dup2, 1) := by decide +kernel
theorem dX9_readsSize_74 : decode cX9_readsSize 74 = .ok (.iaload, 1) := by decide +kernel
theorem dX9_readsSize_75 : decode cX9_readsSize 75 = .ok (.iconst 1, 1) := by decide +kernel
theorem dX9_readsSize_76 : decode cX9_readsSize 76 = .ok (.iload_n 2, 1) := by decide +kernel
theorem dX9_readsSize_77 : decode cX9_readsSize 77 = .ok (.ishl, 1) := by decide +kernel
theorem dX9_readsSize_78 : decode cX9_readsSize 78 = .ok (.ior, 1) := by decide +kernel
theorem dX9_readsSize_79 : decode cX9_readsSize 79 = .ok (.iastore, 1) := by decide +kernel
theorem dX9_readsSize_80 : decode cX9_readsSize 80 = .ok (.iconst 1, 1) := by decide +kernel
theorem dX9_readsSize_81 : decode cX9_readsSize 81 = .ok (.ireturn, 1) := by decide +kernel
theorem dX9_readsSize_82 : decode cX9_readsSize 82 = .ok (.aload_n 0, 1) := by decide +kernel
theorem dX9_readsSize_83 : decode cX9_readsSize 83 = .ok (.iload_n 1, 1) := by decide +kernel
theorem dX9_readsSize_84 : decode cX9_readsSize 84 = .ok (.iload_n 2, 1) := by decide +kernel
theorem dX9_readsSize_85 : decode cX9_readsSize 85 = .ok (.iconst 4, 1) := by decide +kernel
theorem dX9_readsSize_86 : decode cX9_readsSize 86 = .ok (.if_icmp .ge 7, 3) := by decide +kernel
theorem dX9_readsSize_89 : decode cX9_readsSize 89 = .ok (.iconst 1, 1) := by decide +kernel
theorem dX9_readsSize_90 : decode cX9_readsSize 90 = .ok (.goto 4, 3) := by decide +kernel
theorem dX9_readsSize_93 : decode cX9_readsSize 93 = .ok (.iconst 0, 1) := by decide +kernel
theorem dX9_readsSize_94 : decode cX9_readsSize 94 = .ok (.invokevirtual 120, 3) := by decide +kernel
theorem dX9_readsSize_97 : decode cX9_readsSize 97 = .ok (.ifCond .ne 5, 3) := by decide +kernel
theorem dX9_readsSize_100 : decode cX9_readsSize 100 = .ok (.iconst 0, 1) := by decide +kernel
theorem dX9_readsSize_101 : decode cX9_readsSize 101 = .ok (.ireturn, 1) := by decide +kernel
theorem dX9_readsSize_102 : decode cX9_readsSize 102 = .ok (.aload_n 0, 1) := by decide +kernel
theorem dX9_readsSize_103 : decode cX9_readsSize 103 = .ok (.getfield 42, 3) := by decide +kernel
theorem dX9_readsSize_106 : decode cX9_readsSize 106 = .ok (.iload_n 2, 1) := by decide +kernel
theorem dX9_readsSize_107 : decode cX9_readsSize 107 = .ok (.aload_n 0, 1) := by decide +kernel
theorem dX9_readsSize_108 : decode cX9_readsSize 108 = .ok (.getfield 114, 3) := by decide +kernel
theorem dX9_readsSize_111 : decode cX9_readsSize 111 = .ok (.iastore, 1) := by decide +kernel
theorem dX9_readsSize_112 : decode cX9_readsSize 112 = .ok (.aload_n 0, 1) := by decide +kernel
theorem dX9_readsSize_113 : decode cX9_readsSize 113 = .ok (.getfield 42, 3) := by decide +kernel
theorem dX9_readsSize_116 : decode cX9_readsSize 116 = .ok (.bipush 6, 2) := by decide +kernel
theorem dX9_readsSize_118 : decode cX9_readsSize 118 = .ok (.dup2, 1) := by decide +kernel
theorem dX9_readsSize_119 : decode cX9_readsSize 119 = .ok (.iaload, 1) := by decide +kernel
theorem dX9_readsSize_120 : decode cX9_readsSize 120 = .ok (.iconst 1, 1) := by decide +kernel
theorem dX9_readsSize_121 : decode cX9_readsSize 121 = .ok (.iload_n 2, 1) := by decide +kernel
theorem dX9_readsSize_122 : decode cX9_readsSize 122 = .ok (.ishl, 1) := by decide +kernel
theorem dX9_readsSize_123 : decode cX9_readsSize 123 = .ok (.iconst (-1), 1) := by decide +kernel
theorem dX9_readsSize_124 : decode cX9_readsSize 124 = .ok (.ixor, 1) := by decide +kernel
theorem dX9_readsSize_125 : decode cX9_readsSize 125 = .ok (.iand, 1) := by decide +kernel
theorem dX9_readsSize_126 : decode cX9_readsSize 126 = .ok (.iastore, 1) := by decide +kernel
theorem dX9_readsSize_127 : decode cX9_readsSize 127 = .ok (.iconst 1, 1) := by decide +kernel
theorem dX9_readsSize_128 : decode cX9_readsSize 128 = .ok (.ireturn, 1) := by decide +kernel
theorem dX9_walkerFault_0 : decode cX9_walkerFault 0 = .ok (.aload_n 0, 1) := by decide +kernel
theorem dX9_walkerFault_1 : decode cX9_walkerFault 1 = .ok (.iconst 0, 1) := by decide +kernel
theorem dX9_walkerFault_2 : decode cX9_walkerFault 2 = .ok (.putfield 108, 3) := by decide +kernel
theorem dX9_walkerFault_5 : decode cX9_walkerFault 5 = .ok (.iconst 0, 1) := by decide +kernel
theorem dX9_walkerFault_6 : decode cX9_walkerFault 6 = .ok (.istore_n 2, 1) := by decide +kernel
theorem dX9_walkerFault_7 : decode cX9_walkerFault 7 = .ok (.iload_n 2, 1) := by decide +kernel
theorem dX9_walkerFault_8 : decode cX9_walkerFault 8 = .ok (.bipush 7, 2) := by decide +kernel
theorem dX9_walkerFault_10 : decode cX9_walkerFault 10 = .ok (.if_icmp .ge 25, 3) := by decide +kernel
theorem dX9_walkerFault_13 : decode cX9_walkerFault 13 = .ok (.aload_n 0, 1) := by decide +kernel
theorem dX9_walkerFault_14 : decode cX9_walkerFault 14 = .ok (.getfield 42, 3) := by decide +kernel
theorem dX9_walkerFault_17 : decode cX9_walkerFault 17 = .ok (.iload_n 2, 1) := by decide +kernel
theorem dX9_walkerFault_18 : decode cX9_walkerFault 18 = .ok (.iload_n 2, 1) := by decide +kernel
theorem dX9_walkerFault_19 : decode cX9_walkerFault 19 = .ok (.iconst 4, 1) := by decide +kernel
theorem dX9_walkerFault_20 : decode cX9_walkerFault 20 = .ok (.if_icmp .ge 7, 3) := by decide +kernel
theorem dX9_walkerFault_23 : decode cX9_walkerFault 23 = .ok (.iconst 5, 1) := by decide +kernel
theorem dX9_walkerFault_24 : decode cX9_walkerFault 24 = .ok (.goto 4, 3) := by decide +kernel
theorem dX9_walkerFault_27 : decode cX9_walkerFault 27 = .ok (.iconst 0, 1) := by decide +kernel
theorem dX9_walkerFault_28 : decode cX9_walkerFault 28 = .ok (.iastore, 1) := by decide +kernel
theorem dX9_walkerFault_29 : decode cX9_walkerFault 29 = .ok (.iinc 2 1, 3) := by decide +kernel
theorem dX9_walkerFault_32 : decode cX9_walkerFault 32 = .ok (.goto (-25), 3) := by decide +kernel
theorem dX9_walkerFault_35 : decode cX9_walkerFault 35 = .ok (.aload_n 0, 1) := by decide +kernel
theorem dX9_walkerFault_36 : decode cX9_walkerFault 36 = .ok (.getfield 108, 3) := by decide +kernel
theorem dX9_walkerFault_39 : decode cX9_walkerFault 39 = .ok (.aload_n 0, 1) := by decide +kernel
theorem dX9_walkerFault_40 : decode cX9_walkerFault 40 = .ok (.getfield 22, 3) := by decide +kernel
theorem dX9_walkerFault_43 : decode cX9_walkerFault 43 = .ok (.iload_n 1, 1) := by decide +kernel
theorem dX9_walkerFault_44 : decode cX9_walkerFault 44 = .ok (.iaload, 1) := by decide +kernel
theorem dX9_walkerFault_45 : decode cX9_walkerFault 45 = .ok (.if_icmp .ge 43, 3) := by decide +kernel
theorem dX9_walkerFault_48 : decode cX9_walkerFault 48 = .ok (.aload_n 0, 1) := by decide +kernel
theorem dX9_walkerFault_49 : decode cX9_walkerFault 49 = .ok (.iload_n 1, 1) := by decide +kernel
theorem dX9_walkerFault_50 : decode cX9_walkerFault 50 = .ok (.aload_n 0, 1) := by decide +kernel
theorem dX9_walkerFault_51 : decode cX9_walkerFault 51 = .ok (.getfield 108, 3) := by decide +kernel
theorem dX9_walkerFault_54 : decode cX9_walkerFault 54 = .ok (.invokevirtual 111, 3) := by decide +kernel
theorem dX9_walkerFault_57 : decode cX9_walkerFault 57 = .ok (.bipush 32, 2) := by decide +kernel
theorem dX9_walkerFault_59 : decode cX9_walkerFault 59 = .ok (.if_icmp .ne 16, 3) := by decide +kernel
theorem dX9_walkerFault_62 : decode cX9_walkerFault 62 = .ok (.aload_n 0, 1) := by decide +kernel
theorem dX9_walkerFault_63 : decode cX9_walkerFault 63 = .ok (.dup, 1) := by decide +kernel
theorem dX9_walkerFault_64 : decode cX9_walkerFault 64 = .ok (.getfield 108, 3) := by decide +kernel
theorem dX9_walkerFault_67 : decode cX9_walkerFault 67 = .ok (.iconst 1, 1) := by decide +kernel
theorem dX9_walkerFault_68 : decode cX9_walkerFault 68 = .ok (.iadd, 1) := by decide +kernel
theorem dX9_walkerFault_69 : decode cX9_walkerFault 69 = .ok (.putfield 108, 3) := by decide +kernel
theorem dX9_walkerFault_72 : decode cX9_walkerFault 72 = .ok (.goto (-37), 3) := by decide +kernel
theorem dX9_walkerFault_75 : decode cX9_walkerFault 75 = .ok (.aload_n 0, 1) := by decide +kernel
theorem dX9_walkerFault_76 : decode cX9_walkerFault 76 = .ok (.iload_n 1, 1) := by decide +kernel
theorem dX9_walkerFault_77 : decode cX9_walkerFault 77 = .ok (.invokevirtual 124, 3) := by decide +kernel
theorem dX9_walkerFault_80 : decode cX9_walkerFault 80 = .ok (.ifCond .ne (-45), 3) := by decide +kernel
theorem dX9_walkerFault_83 : decode cX9_walkerFault 83 = .ok (.aload_n 0, 1) := by decide +kernel
theorem dX9_walkerFault_84 : decode cX9_walkerFault 84 = .ok (.getfield 108, 3) := by decide +kernel
theorem dX9_walkerFault_87 : decode cX9_walkerFault 87 = .ok (.ireturn, 1) := by decide +kernel
theorem dX9_walkerFault_88 : decode cX9_walkerFault 88 = .ok (.bipush (-9), 2) := by decide +kernel
theorem dX9_walkerFault_90 : decode cX9_walkerFault 90 = .ok (.ireturn, 1) := by decide +kernel
theorem dX9_readsBoard_0 : decode cX9_readsBoard 0 = .ok (.aload_n 0, 1) := by decide +kernel
theorem dX9_readsBoard_1 : decode cX9_readsBoard 1 = .ok (.iload_n 1, 1) := by decide +kernel
theorem dX9_readsBoard_2 : decode cX9_readsBoard 2 = .ok (.aload_n 0, 1) := by decide +kernel
theorem dX9_readsBoard_3 : decode cX9_readsBoard 3 = .ok (.getfield 108, 3) := by decide +kernel
theorem dX9_readsBoard_6 : decode cX9_readsBoard 6 = .ok (.invokevirtual 111, 3) := by decide +kernel
theorem dX9_readsBoard_9 : decode cX9_readsBoard 9 = .ok (.istore_n 2, 1) := by decide +kernel
theorem dX9_readsBoard_10 : decode cX9_readsBoard 10 = .ok (.iload_n 2, 1) := by decide +kernel
theorem dX9_readsBoard_11 : decode cX9_readsBoard 11 = .ok (.bipush 117, 2) := by decide +kernel
theorem dX9_readsBoard_13 : decode cX9_readsBoard 13 = .ok (.if_icmp .eq 9, 3) := by decide +kernel
theorem dX9_readsBoard_16 : decode cX9_readsBoard 16 = .ok (.iload_n 2, 1) := by decide +kernel
theorem dX9_readsBoard_17 : decode cX9_readsBoard 17 = .ok (.bipush 98, 2) := by decide +kernel
theorem dX9_readsBoard_19 : decode cX9_readsBoard 19 = .ok (.if_icmp .ne 18, 3) := by decide +kernel
theorem dX9_readsBoard_22 : decode cX9_readsBoard 22 = .ok (.iload_n 2, 1) := by decide +kernel
theorem dX9_readsBoard_23 : decode cX9_readsBoard 23 = .ok (.bipush 98, 2) := by decide +kernel
theorem dX9_readsBoard_25 : decode cX9_readsBoard 25 = .ok (.if_icmp .ne 14, 3) := by decide +kernel
theorem dX9_readsBoard_28 : decode cX9_readsBoard 28 = .ok (.aload_n 0, 1) := by decide +kernel
theorem dX9_readsBoard_29 : decode cX9_readsBoard 29 = .ok (.getfield 127, 3) := by decide +kernel
theorem dX9_readsBoard_32 : decode cX9_readsBoard 32 = .ok (.bipush 8, 2) := by decide +kernel
theorem dX9_readsBoard_34 : decode cX9_readsBoard 34 = .ok (.if_icmp .ne 5, 3) := by decide +kernel
theorem dX9_readsBoard_37 : decode cX9_readsBoard 37 = .ok (.iconst 0, 1) := by decide +kernel
theorem dX9_readsBoard_38 : decode cX9_readsBoard 38 = .ok (.ireturn, 1) := by decide +kernel
theorem dX9_readsBoard_39 : decode cX9_readsBoard 39 = .ok (.aload_n 0, 1) := by decide +kernel
theorem dX9_readsBoard_40 : decode cX9_readsBoard 40 = .ok (.dup, 1) := by decide +kernel
theorem dX9_readsBoard_41 : decode cX9_readsBoard 41 = .ok (.getfield 108, 3) := by decide +kernel
theorem dX9_readsBoard_44 : decode cX9_readsBoard 44 = .ok (.iconst 1, 1) := by decide +kernel
theorem dX9_readsBoard_45 : decode cX9_readsBoard 45 = .ok (.iadd, 1) := by decide +kernel
theorem dX9_readsBoard_46 : decode cX9_readsBoard 46 = .ok (.putfield 108, 3) := by decide +kernel
theorem dX9_readsBoard_49 : decode cX9_readsBoard 49 = .ok (.iload_n 2, 1) := by decide +kernel
theorem dX9_readsBoard_50 : decode cX9_readsBoard 50 = .ok (.bipush 117, 2) := by decide +kernel
theorem dX9_readsBoard_52 : decode cX9_readsBoard 52 = .ok (.if_icmp .ne 35, 3) := by decide +kernel
theorem dX9_readsBoard_55 : decode cX9_readsBoard 55 = .ok (.aload_n 0, 1) := by decide +kernel
theorem dX9_readsBoard_56 : decode cX9_readsBoard 56 = .ok (.iload_n 1, 1) := by decide +kernel
theorem dX9_readsBoard_57 : decode cX9_readsBoard 57 = .ok (.iconst 0, 1) := by decide +kernel
theorem dX9_readsBoard_58 : decode cX9_readsBoard 58 = .ok (.invokevirtual 120, 3) := by decide +kernel
theorem dX9_readsBoard_61 : decode cX9_readsBoard 61 = .ok (.istore_n 3, 1) := by decide +kernel
theorem dX9_readsBoard_62 : decode cX9_readsBoard 62 = .ok (.aload_n 0, 1) := by decide +kernel
theorem dX9_readsBoard_63 : decode cX9_readsBoard 63 = .ok (.getfield 45, 3) := by decide +kernel
theorem dX9_readsBoard_66 : decode cX9_readsBoard 66 = .ok (.iconst 0, 1) := by decide +kernel
theorem dX9_readsBoard_67 : decode cX9_readsBoard 67 = .ok (.iload_n 3, 1) := by decide +kernel
theorem dX9_readsBoard_68 : decode cX9_readsBoard 68 = .ok (.ifCond .eq 10, 3) := by decide +kernel
theorem dX9_readsBoard_71 : decode cX9_readsBoard 71 = .ok (.aload_n 0, 1) := by decide +kernel
theorem dX9_readsBoard_72 : decode cX9_readsBoard 72 = .ok (.getfield 114, 3) := by decide +kernel
theorem dX9_readsBoard_75 : decode cX9_readsBoard 75 = .ok (.goto 9, 3) := by decide +kernel
theorem dX9_readsBoard_78 : decode cX9_readsBoard 78 = .ok (.aload_n 0, 1) := by decide +kernel
theorem dX9_readsBoard_79 : decode cX9_readsBoard 79 = .ok (.getfield 45, 3) := by decide +kernel
theorem dX9_readsBoard_82 : decode cX9_readsBoard 82 = .ok (.iconst 0, 1) := by decide +kernel
theorem dX9_readsBoard_83 : decode cX9_readsBoard 83 = .ok (.iaload, 1) := by decide +kernel
theorem dX9_readsBoard_84 : decode cX9_readsBoard 84 = .ok (.iastore, 1) := by decide +kernel
theorem dX9_readsBoard_85 : decode cX9_readsBoard 85 = .ok (.iload_n 3, 1) := by decide +kernel
theorem dX9_readsBoard_86 : decode cX9_readsBoard 86 = .ok (.ireturn, 1) := by decide +kernel
theorem dX9_readsBoard_87 : decode cX9_readsBoard 87 = .ok (.aload_n 0, 1) := by decide +kernel
theorem dX9_readsBoard_88 : decode cX9_readsBoard 88 = .ok (.iload_n 1, 1) := by decide +kernel
theorem dX9_readsBoard_89 : decode cX9_readsBoard 89 = .ok (.iconst 0, 1) := by decide +kernel
theorem dX9_readsBoard_90 : decode cX9_readsBoard 90 = .ok (.invokevirtual 120, 3) := by decide +kernel
theorem dX9_readsBoard_93 : decode cX9_readsBoard 93 = .ok (.ifCond .ne 5, 3) := by decide +kernel
theorem dX9_readsBoard_96 : decode cX9_readsBoard 96 = .ok (.iconst 0, 1) := by decide +kernel
theorem dX9_readsBoard_97 : decode cX9_readsBoard 97 = .ok (.ireturn, 1) := by decide +kernel
theorem dX9_readsBoard_98 : decode cX9_readsBoard 98 = .ok (.aload_n 0, 1) := by decide +kernel
theorem dX9_readsBoard_99 : decode cX9_readsBoard 99 = .ok (.getfield 114, 3) := by decide +kernel
theorem dX9_readsBoard_102 : decode cX9_readsBoard 102 = .ok (.istore_n 3, 1) := by decide +kernel
theorem dX9_readsBoard_103 : decode cX9_readsBoard 103 = .ok (.aload_n 0, 1) := by decide +kernel
theorem dX9_readsBoard_104 : decode cX9_readsBoard 104 = .ok (.iload_n 1, 1) := by decide +kernel
theorem dX9_readsBoard_105 : decode cX9_readsBoard 105 = .ok (.iconst 0, 1) := by decide +kernel
theorem dX9_readsBoard_106 : decode cX9_readsBoard 106 = .ok (.invokevirtual 120, 3) := by decide +kernel
theorem dX9_readsBoard_109 : decode cX9_readsBoard 109 = .ok (.ifCond .eq 13, 3) := by decide +kernel
theorem dX9_readsBoard_112 : decode cX9_readsBoard 112 = .ok (.bipush 10, 2) := by decide +kernel
theorem dX9_readsBoard_114 : decode cX9_readsBoard 114 = .ok (.iload_n 3, 1) := by decide +kernel
theorem dX9_readsBoard_115 : decode cX9_readsBoard 115 = .ok (.imul, 1) := by decide +kernel
theorem dX9_readsBoard_116 : decode cX9_readsBoard 116 = .ok (.aload_n 0, 1) := by decide +kernel
theorem dX9_readsBoard_117 : decode cX9_readsBoard 117 = .ok (.getfield 114, 3) := by decide +kernel
theorem dX9_readsBoard_120 : decode cX9_readsBoard 120 = .ok (.iadd, 1) := by decide +kernel
theorem dX9_readsBoard_121 : decode cX9_readsBoard 121 = .ok (.istore_n 3, 1) := by decide +kernel
theorem dX9_readsBoard_122 : decode cX9_readsBoard 122 = .ok (.aload_n 0, 1) := by decide +kernel
theorem dX9_readsBoard_123 : decode cX9_readsBoard 123 = .ok (.iload_n 1, 1) := by decide +kernel
theorem dX9_readsBoard_124 : decode cX9_readsBoard 124 = .ok (.aload_n 0, 1) := by decide +kernel
theorem dX9_readsBoard_125 : decode cX9_readsBoard 125 = .ok (.getfield 108, 3) := by decide +kernel
theorem dX9_readsBoard_128 : decode cX9_readsBoard 128 = .ok (.invokevirtual 111, 3) := by decide +kernel
theorem dX9_readsBoard_131 : decode cX9_readsBoard 131 = .ok (.bipush 58, 2) := by decide +kernel
theorem dX9_readsBoard_133 : decode cX9_readsBoard 133 = .ok (.if_icmp .eq 5, 3) := by decide +kernel
theorem dX9_readsBoard_136 : decode cX9_readsBoard 136 = .ok (.iconst 0, 1) := by decide +kernel
theorem dX9_readsBoard_137 : decode cX9_readsBoard 137 = .ok (.ireturn, 1) := by decide +kernel
theorem dX9_readsBoard_138 : decode cX9_readsBoard 138 = .ok (.aload_n 0, 1) := by decide +kernel
theorem dX9_readsBoard_139 : decode cX9_readsBoard 139 = .ok (.dup, 1) := by decide +kernel
theorem dX9_readsBoard_140 : decode cX9_readsBoard 140 = .ok (.getfield 108, 3) := by decide +kernel
theorem dX9_readsBoard_143 : decode cX9_readsBoard 143 = .ok (.iconst 1, 1) := by decide +kernel
theorem dX9_readsBoard_144 : decode cX9_readsBoard 144 = .ok (.iadd, 1) := by decide +kernel
theorem dX9_readsBoard_145 : decode cX9_readsBoard 145 = .ok (.putfield 108, 3) := by decide +kernel
theorem dX9_readsBoard_148 : decode cX9_readsBoard 148 = .ok (.aload_n 0, 1) := by decide +kernel
theorem dX9_readsBoard_149 : decode cX9_readsBoard 149 = .ok (.iload_n 1, 1) := by decide +kernel
theorem dX9_readsBoard_150 : decode cX9_readsBoard 150 = .ok (.iconst 1, 1) := by decide +kernel
theorem dX9_readsBoard_151 : decode cX9_readsBoard 151 = .ok (.invokevirtual 120, 3) := by decide +kernel
theorem dX9_readsBoard_154 : decode cX9_readsBoard 154 = .ok (.ifCond .ne 5, 3) := by decide +kernel
theorem dX9_readsBoard_157 : decode cX9_readsBoard 157 = .ok (.iconst 0, 1) := by decide +kernel
theorem dX9_readsBoard_158 : decode cX9_readsBoard 158 = .ok (.ireturn, 1) := by decide +kernel
theorem dX9_readsBoard_159 : decode cX9_readsBoard 159 = .ok (.aload_n 0, 1) := by decide +kernel
theorem dX9_readsBoard_160 : decode cX9_readsBoard 160 = .ok (.getfield 45, 3) := by decide +kernel
theorem dX9_readsBoard_163 : decode cX9_readsBoard 163 = .ok (.iconst 1, 1) := by decide +kernel
theorem dX9_readsBoard_164 : decode cX9_readsBoard 164 = .ok (.iload_n 3, 1) := by decide +kernel
theorem dX9_readsBoard_165 : decode cX9_readsBoard 165 = .ok (.iadd, 1) := by decide +kernel
theorem dX9_readsBoard_166 : decode cX9_readsBoard 166 = .ok (.dup2, 1) := by decide +kernel
theorem dX9_readsBoard_167 : decode cX9_readsBoard 167 = .ok (.iaload, 1) := by decide +kernel
theorem dX9_readsBoard_168 : decode cX9_readsBoard 168 = .ok (.aload_n 0, 1) := by decide +kernel
theorem dX9_readsBoard_169 : decode cX9_readsBoard 169 = .ok (.getfield 114, 3) := by decide +kernel
theorem dX9_readsBoard_172 : decode cX9_readsBoard 172 = .ok (.iadd, 1) := by decide +kernel
theorem dX9_readsBoard_173 : decode cX9_readsBoard 173 = .ok (.iastore, 1) := by decide +kernel
theorem dX9_readsBoard_174 : decode cX9_readsBoard 174 = .ok (.aload_n 0, 1) := by decide +kernel
theorem dX9_readsBoard_175 : decode cX9_readsBoard 175 = .ok (.dup, 1) := by decide +kernel
theorem dX9_readsBoard_176 : decode cX9_readsBoard 176 = .ok (.getfield 127, 3) := by decide +kernel
theorem dX9_readsBoard_179 : decode cX9_readsBoard 179 = .ok (.iconst 1, 1) := by decide +kernel
theorem dX9_readsBoard_180 : decode cX9_readsBoard 180 = .ok (.iadd, 1) := by decide +kernel
theorem dX9_readsBoard_181 : decode cX9_readsBoard 181 = .ok (.putfield 127, 3) := by decide +kernel
theorem dX9_readsBoard_184 : decode cX9_readsBoard 184 = .ok (.iconst 1, 1) := by decide +kernel
theorem dX9_readsBoard_185 : decode cX9_readsBoard 185 = .ok (.ireturn, 1) := by decide +kernel
theorem dX9_boardFault_0 : decode cX9_boardFault 0 = .ok (.aload_n 0, 1) := by decide +kernel
theorem dX9_boardFault_1 : decode cX9_boardFault 1 = .ok (.iconst 0, 1) := by decide +kernel
theorem dX9_boardFault_2 : decode cX9_boardFault 2 = .ok (.putfield 108, 3) := by decide +kernel
theorem dX9_boardFault_5 : decode cX9_boardFault 5 = .ok (.aload_n 0, 1) := by decide +kernel
theorem dX9_boardFault_6 : decode cX9_boardFault 6 = .ok (.iconst 0, 1) := by decide +kernel
theorem dX9_boardFault_7 : decode cX9_boardFault 7 = .ok (.putfield 127, 3) := by decide +kernel
theorem dX9_boardFault_10 : decode cX9_boardFault 10 = .ok (.iconst 0, 1) := by decide +kernel
theorem dX9_boardFault_11 : decode cX9_boardFault 11 = .ok (.istore_n 2, 1) := by decide +kernel
theorem dX9_boardFault_12 : decode cX9_boardFault 12 = .ok (.iload_n 2, 1) := by decide +kernel
theorem dX9_boardFault_13 : decode cX9_boardFault 13 = .ok (.bipush 101, 2) := by decide +kernel
theorem dX9_boardFault_15 : decode cX9_boardFault 15 = .ok (.if_icmp .ge 24, 3) := by decide +kernel
theorem dX9_boardFault_18 : decode cX9_boardFault 18 = .ok (.aload_n 0, 1) := by decide +kernel
theorem dX9_boardFault_19 : decode cX9_boardFault 19 = .ok (.getfield 45, 3) := by decide +kernel
theorem dX9_boardFault_22 : decode cX9_boardFault 22 = .ok (.iload_n 2, 1) := by decide +kernel
theorem dX9_boardFault_23 : decode cX9_boardFault 23 = .ok (.iload_n 2, 1) := by decide +kernel
theorem dX9_boardFault_24 : decode cX9_boardFault 24 = .ok (.ifCond .ne 7, 3) := by decide +kernel
theorem dX9_boardFault_27 : decode cX9_boardFault 27 = .ok (.iconst 1, 1) := by decide +kernel
theorem dX9_boardFault_28 : decode cX9_boardFault 28 = .ok (.goto 4, 3) := by decide +kernel
theorem dX9_boardFault_31 : decode cX9_boardFault 31 = .ok (.iconst 0, 1) := by decide +kernel
theorem dX9_boardFault_32 : decode cX9_boardFault 32 = .ok (.iastore, 1) := by decide +kernel
theorem dX9_boardFault_33 : decode cX9_boardFault 33 = .ok (.iinc 2 1, 3) := by decide +kernel
theorem dX9_boardFault_36 : decode cX9_boardFault 36 = .ok (.goto (-24), 3) := by decide +kernel
theorem dX9_boardFault_39 : decode cX9_boardFault 39 = .ok (.aload_n 0, 1) := by decide +kernel
theorem dX9_boardFault_40 : decode cX9_boardFault 40 = .ok (.getfield 108, 3) := by decide +kernel
theorem dX9_boardFault_43 : decode cX9_boardFault 43 = .ok (.aload_n 0, 1) := by decide +kernel
theorem dX9_boardFault_44 : decode cX9_boardFault 44 = .ok (.getfield 22, 3) := by decide +kernel
theorem dX9_boardFault_47 : decode cX9_boardFault 47 = .ok (.iload_n 1, 1) := by decide +kernel
theorem dX9_boardFault_48 : decode cX9_boardFault 48 = .ok (.iaload, 1) := by decide +kernel
theorem dX9_boardFault_49 : decode cX9_boardFault 49 = .ok (.if_icmp .ge 43, 3) := by decide +kernel
theorem dX9_boardFault_52 : decode cX9_boardFault 52 = .ok (.aload_n 0, 1) := by decide +kernel
theorem dX9_boardFault_53 : decode cX9_boardFault 53 = .ok (.iload_n 1, 1) := by decide +kernel
theorem dX9_boardFault_54 : decode cX9_boardFault 54 = .ok (.aload_n 0, 1) := by decide +kernel
theorem dX9_boardFault_55 : decode cX9_boardFault 55 = .ok (.getfield 108, 3) := by decide +kernel
theorem dX9_boardFault_58 : decode cX9_boardFault 58 = .ok (.invokevirtual 111, 3) := by decide +kernel
theorem dX9_boardFault_61 : decode cX9_boardFault 61 = .ok (.bipush 32, 2) := by decide +kernel
theorem dX9_boardFault_63 : decode cX9_boardFault 63 = .ok (.if_icmp .ne 16, 3) := by decide +kernel
theorem dX9_boardFault_66 : decode cX9_boardFault 66 = .ok (.aload_n 0, 1) := by decide +kernel
theorem dX9_boardFault_67 : decode cX9_boardFault 67 = .ok (.dup, 1) := by decide +kernel
theorem dX9_boardFault_68 : decode cX9_boardFault 68 = .ok (.getfield 108, 3) := by decide +kernel
theorem dX9_boardFault_71 : decode cX9_boardFault 71 = .ok (.iconst 1, 1) := by decide +kernel
theorem dX9_boardFault_72 : decode cX9_boardFault 72 = .ok (.iadd, 1) := by decide +kernel
theorem dX9_boardFault_73 : decode cX9_boardFault 73 = .ok (.putfield 108, 3) := by decide +kernel
theorem dX9_boardFault_76 : decode cX9_boardFault 76 = .ok (.goto (-37), 3) := by decide +kernel
theorem dX9_boardFault_79 : decode cX9_boardFault 79 = .ok (.aload_n 0, 1) := by decide +kernel
theorem dX9_boardFault_80 : decode cX9_boardFault 80 = .ok (.iload_n 1, 1) := by decide +kernel
theorem dX9_boardFault_81 : decode cX9_boardFault 81 = .ok (.invokevirtual 130, 3) := by decide +kernel
theorem dX9_boardFault_84 : decode cX9_boardFault 84 = .ok (.ifCond .ne (-45), 3) := by decide +kernel
theorem dX9_boardFault_87 : decode cX9_boardFault 87 = .ok (.aload_n 0, 1) := by decide +kernel
theorem dX9_boardFault_88 : decode cX9_boardFault 88 = .ok (.getfield 108, 3) := by decide +kernel
theorem dX9_boardFault_91 : decode cX9_boardFault 91 = .ok (.ireturn, 1) := by decide +kernel
theorem dX9_boardFault_92 : decode cX9_boardFault 92 = .ok (.bipush (-9), 2) := by decide +kernel
theorem dX9_boardFault_94 : decode cX9_boardFault 94 = .ok (.ireturn, 1) := by decide +kernel
theorem dX9_fault_0 : decode cX9_fault 0 = .ok (.iload_n 1, 1) := by decide +kernel
theorem dX9_fault_1 : decode cX9_fault 1 = .ok (.invokestatic 105, 3) := by decide +kernel
theorem dX9_fault_4 : decode cX9_fault 4 = .ok (.ifCond .ne 5, 3) := by decide +kernel
theorem dX9_fault_7 : decode cX9_fault 7 = .ok (.iconst (-1), 1) := by decide +kernel
theorem dX9_fault_8 : decode cX9_fault 8 = .ok (.ireturn, 1) := by decide +kernel
theorem dX9_fault_9 : decode cX9_fault 9 = .ok (.aload_n 0, 1) := by decide +kernel
theorem dX9_fault_10 : decode cX9_fault 10 = .ok (.getfield 22, 3) := by decide +kernel
theorem dX9_fault_13 : decode cX9_fault 13 = .ok (.iload_n 1, 1) := by decide +kernel
theorem dX9_fault_14 : decode cX9_fault 14 = .ok (.iaload, 1) := by decide +kernel
theorem dX9_fault_15 : decode cX9_fault 15 = .ok (.ifCond .ge 11, 3) := by decide +kernel
theorem dX9_fault_18 : decode cX9_fault 18 = .ok (.aload_n 0, 1) := by decide +kernel
theorem dX9_fault_19 : decode cX9_fault 19 = .ok (.iconst 1, 1) := by decide +kernel
theorem dX9_fault_20 : decode cX9_fault 20 = .ok (.invokevirtual 94, 3) := by decide +kernel
theorem dX9_fault_23 : decode cX9_fault 23 = .ok (.goto 20, 3) := by decide +kernel
theorem dX9_fault_26 : decode cX9_fault 26 = .ok (.iload_n 2, 1) := by decide +kernel
theorem dX9_fault_27 : decode cX9_fault 27 = .ok (.ifCond .eq 11, 3) := by decide +kernel
theorem dX9_fault_30 : decode cX9_fault 30 = .ok (.aload_n 0, 1) := by decide +kernel
theorem dX9_fault_31 : decode cX9_fault 31 = .ok (.iload_n 1, 1) := by decide +kernel
theorem dX9_fault_32 : decode cX9_fault 32 = .ok (.invokevirtual 133, 3) := by decide +kernel
theorem dX9_fault_35 : decode cX9_fault 35 = .ok (.goto 8, 3) := by decide +kernel
theorem dX9_fault_38 : decode cX9_fault 38 = .ok (.aload_n 0, 1) := by decide +kernel
theorem dX9_fault_39 : decode cX9_fault 39 = .ok (.iload_n 1, 1) := by decide +kernel
theorem dX9_fault_40 : decode cX9_fault 40 = .ok (.invokevirtual 136, 3) := by decide +kernel
theorem dX9_fault_43 : decode cX9_fault 43 = .ok (.ireturn, 1) := by decide +kernel
theorem dX9_isPlace_0 : decode cX9_isPlace 0 = .ok (.iload_n 0, 1) := by decide +kernel
theorem dX9_isPlace_1 : decode cX9_isPlace 1 = .ok (.iconst 0, 1) := by decide +kernel
theorem dX9_isPlace_2 : decode cX9_isPlace 2 = .ok (.iconst 3, 1) := by decide +kernel
theorem dX9_isPlace_3 : decode cX9_isPlace 3 = .ok (.invokestatic 80, 3) := by decide +kernel
theorem dX9_isPlace_6 : decode cX9_isPlace 6 = .ok (.ireturn, 1) := by decide +kernel
theorem dX9_bits_0 : decode cX9_bits 0 = .ok (.iconst 0, 1) := by decide +kernel
theorem dX9_bits_1 : decode cX9_bits 1 = .ok (.istore_n 1, 1) := by decide +kernel
theorem dX9_bits_2 : decode cX9_bits 2 = .ok (.iload_n 0, 1) := by decide +kernel
theorem dX9_bits_3 : decode cX9_bits 3 = .ok (.istore_n 2, 1) := by decide +kernel
theorem dX9_bits_4 : decode cX9_bits 4 = .ok (.iload_n 2, 1) := by decide +kernel
theorem dX9_bits_5 : decode cX9_bits 5 = .ok (.ifCond .eq 15, 3) := by decide +kernel
theorem dX9_bits_8 : decode cX9_bits 8 = .ok (.iinc 1 1, 3) := by decide +kernel
theorem dX9_bits_11 : decode cX9_bits 11 = .ok (.iload_n 2, 1) := by decide +kernel
theorem dX9_bits_12 : decode cX9_bits 12 = .ok (.iload_n 2, 1) := by decide +kernel
theorem dX9_bits_13 : decode cX9_bits 13 = .ok (.iconst 1, 1) := by decide +kernel
theorem dX9_bits_14 : decode cX9_bits 14 = .ok (.isub, 1) := by decide +kernel
theorem dX9_bits_15 : decode cX9_bits 15 = .ok (.iand, 1) := by decide +kernel
theorem dX9_bits_16 : decode cX9_bits 16 = .ok (.istore_n 2, 1) := by decide +kernel
theorem dX9_bits_17 : decode cX9_bits 17 = .ok (.goto (-13), 3) := by decide +kernel
theorem dX9_bits_20 : decode cX9_bits 20 = .ok (.iload_n 1, 1) := by decide +kernel
theorem dX9_bits_21 : decode cX9_bits 21 = .ok (.ireturn, 1) := by decide +kernel
theorem dX9_walker_0 : decode cX9_walker 0 = .ok (.iload_n 1, 1) := by decide +kernel
theorem dX9_walker_1 : decode cX9_walker 1 = .ok (.invokestatic 139, 3) := by decide +kernel
theorem dX9_walker_4 : decode cX9_walker 4 = .ok (.ifCond .eq 10, 3) := by decide +kernel
theorem dX9_walker_7 : decode cX9_walker 7 = .ok (.iload_n 2, 1) := by decide +kernel
theorem dX9_walker_8 : decode cX9_walker 8 = .ok (.invokestatic 105, 3) := by decide +kernel
theorem dX9_walker_11 : decode cX9_walker 11 = .ok (.ifCond .ne 5, 3) := by decide +kernel
theorem dX9_walker_14 : decode cX9_walker 14 = .ok (.iconst (-1), 1) := by decide +kernel
theorem dX9_walker_15 : decode cX9_walker 15 = .ok (.ireturn, 1) := by decide +kernel
theorem dX9_walker_16 : decode cX9_walker 16 = .ok (.aload_n 0, 1) := by decide +kernel
theorem dX9_walker_17 : decode cX9_walker 17 = .ok (.getfield 22, 3) := by decide +kernel
theorem dX9_walker_20 : decode cX9_walker 20 = .ok (.iload_n 2, 1) := by decide +kernel
theorem dX9_walker_21 : decode cX9_walker 21 = .ok (.iaload, 1) := by decide +kernel
theorem dX9_walker_22 : decode cX9_walker 22 = .ok (.ifCond .ge 9, 3) := by decide +kernel
theorem dX9_walker_25 : decode cX9_walker 25 = .ok (.aload_n 0, 1) := by decide +kernel
theorem dX9_walker_26 : decode cX9_walker 26 = .ok (.iconst 1, 1) := by decide +kernel
theorem dX9_walker_27 : decode cX9_walker 27 = .ok (.invokevirtual 94, 3) := by decide +kernel
theorem dX9_walker_30 : decode cX9_walker 30 = .ok (.ireturn, 1) := by decide +kernel
theorem dX9_walker_31 : decode cX9_walker 31 = .ok (.aload_n 0, 1) := by decide +kernel
theorem dX9_walker_32 : decode cX9_walker 32 = .ok (.iload_n 2, 1) := by decide +kernel
theorem dX9_walker_33 : decode cX9_walker 33 = .ok (.invokevirtual 136, 3) := by decide +kernel
theorem dX9_walker_36 : decode cX9_walker 36 = .ok (.bipush (-9), 2) := by decide +kernel
theorem dX9_walker_38 : decode cX9_walker 38 = .ok (.if_icmp .eq 6, 3) := by decide +kernel
theorem dX9_walker_41 : decode cX9_walker 41 = .ok (.bipush (-4), 2) := by decide +kernel
theorem dX9_walker_43 : decode cX9_walker 43 = .ok (.ireturn, 1) := by decide +kernel
theorem dX9_walker_44 : decode cX9_walker 44 = .ok (.iconst 0, 1) := by decide +kernel
theorem dX9_walker_45 : decode cX9_walker 45 = .ok (.istore_n 3, 1) := by decide +kernel
theorem dX9_walker_46 : decode cX9_walker 46 = .ok (.iload_n 3, 1) := by decide +kernel
theorem dX9_walker_47 : decode cX9_walker 47 = .ok (.bipush 7, 2) := by decide +kernel
theorem dX9_walker_49 : decode cX9_walker 49 = .ok (.if_icmp .ge 26, 3) := by decide +kernel
theorem dX9_walker_52 : decode cX9_walker 52 = .ok (.aload_n 0, 1) := by decide +kernel
theorem dX9_walker_53 : decode cX9_walker 53 = .ok (.getfield 33, 3) := by decide +kernel
theorem dX9_walker_56 : decode cX9_walker 56 = .ok (.bipush 7, 2) := by decide +kernel
theorem dX9_walker_58 : decode cX9_walker 58 = .ok (.iload_n 1, 1) := by decide +kernel
theorem dX9_walker_59 : decode cX9_walker 59 = .ok (.imul, 1) := by decide +kernel
theorem dX9_walker_60 : decode cX9_walker 60 = .ok (.iload_n 3, 1) := by decide +kernel
theorem dX9_walker_61 : decode cX9_walker 61 = .ok (.iadd, 1) := by decide +kernel
theorem dX9_walker_62 : decode cX9_walker 62 = .ok (.aload_n 0, 1) := by decide +kernel
theorem dX9_walker_63 : decode cX9_walker 63 = .ok (.getfield 42, 3) := by decide +kernel
theorem dX9_walker_66 : decode cX9_walker 66 = .ok (.iload_n 3, 1) := by decide +kernel
theorem dX9_walker_67 : decode cX9_walker 67 = .ok (.iaload, 1) := by decide +kernel
theorem dX9_walker_68 : decode cX9_walker 68 = .ok (.iastore, 1) := by decide +kernel
theorem dX9_walker_69 : decode cX9_walker 69 = .ok (.iinc 3 1, 3) := by decide +kernel
theorem dX9_walker_72 : decode cX9_walker 72 = .ok (.goto (-26), 3) := by decide +kernel
theorem dX9_walker_75 : decode cX9_walker 75 = .ok (.aload_n 0, 1) := by decide +kernel
theorem dX9_walker_76 : decode cX9_walker 76 = .ok (.getfield 29, 3) := by decide +kernel
theorem dX9_walker_79 : decode cX9_walker 79 = .ok (.iload_n 1, 1) := by decide +kernel
theorem dX9_walker_80 : decode cX9_walker 80 = .ok (.iconst 1, 1) := by decide +kernel
theorem dX9_walker_81 : decode cX9_walker 81 = .ok (.bastore, 1) := by decide +kernel
theorem dX9_walker_82 : decode cX9_walker 82 = .ok (.aload_n 0, 1) := by decide +kernel
theorem dX9_walker_83 : decode cX9_walker 83 = .ok (.getfield 42, 3) := by decide +kernel
theorem dX9_walker_86 : decode cX9_walker 86 = .ok (.bipush 6, 2) := by decide +kernel
theorem dX9_walker_88 : decode cX9_walker 88 = .ok (.iaload, 1) := by decide +kernel
theorem dX9_walker_89 : decode cX9_walker 89 = .ok (.invokestatic 142, 3) := by decide +kernel
theorem dX9_walker_92 : decode cX9_walker 92 = .ok (.ireturn, 1) := by decide +kernel
theorem dX9_board_0 : decode cX9_board 0 = .ok (.iload_n 1, 1) := by decide +kernel
theorem dX9_board_1 : decode cX9_board 1 = .ok (.invokestatic 139, 3) := by decide +kernel
theorem dX9_board_4 : decode cX9_board 4 = .ok (.ifCond .eq 10, 3) := by decide +kernel
theorem dX9_board_7 : decode cX9_board 7 = .ok (.iload_n 2, 1) := by decide +kernel
theorem dX9_board_8 : decode cX9_board 8 = .ok (.invokestatic 105, 3) := by decide +kernel
theorem dX9_board_11 : decode cX9_board 11 = .ok (.ifCond .ne 5, 3) := by decide +kernel
theorem dX9_board_14 : decode cX9_board 14 = .ok (.iconst (-1), 1) := by decide +kernel
theorem dX9_board_15 : decode cX9_board 15 = .ok (.ireturn, 1) := by decide +kernel
theorem dX9_board_16 : decode cX9_board 16 = .ok (.aload_n 0, 1) := by decide +kernel
theorem dX9_board_17 : decode cX9_board 17 = .ok (.getfield 22, 3) := by decide +kernel
theorem dX9_board_20 : decode cX9_board 20 = .ok (.iload_n 2, 1) := by decide +kernel
theorem dX9_board_21 : decode cX9_board 21 = .ok (.iaload, 1) := by decide +kernel
theorem dX9_board_22 : decode cX9_board 22 = .ok (.ifCond .ge 9, 3) := by decide +kernel
theorem dX9_board_25 : decode cX9_board 25 = .ok (.aload_n 0, 1) := by decide +kernel
theorem dX9_board_26 : decode cX9_board 26 = .ok (.iconst 1, 1) := by decide +kernel
theorem dX9_board_27 : decode cX9_board 27 = .ok (.invokevirtual 94, 3) := by decide +kernel
theorem dX9_board_30 : decode cX9_board 30 = .ok (.ireturn, 1) := by decide +kernel
theorem dX9_board_31 : decode cX9_board 31 = .ok (.aload_n 0, 1) := by decide +kernel
theorem dX9_board_32 : decode cX9_board 32 = .ok (.iload_n 2, 1) := by decide +kernel
theorem dX9_board_33 : decode cX9_board 33 = .ok (.invokevirtual 133, 3) := by decide +kernel
theorem dX9_board_36 : decode cX9_board 36 = .ok (.bipush (-9), 2) := by decide +kernel
theorem dX9_board_38 : decode cX9_board 38 = .ok (.if_icmp .eq 6, 3) := by decide +kernel
theorem dX9_board_41 : decode cX9_board 41 = .ok (.bipush (-4), 2) := by decide +kernel
theorem dX9_board_43 : decode cX9_board 43 = .ok (.ireturn, 1) := by decide +kernel
theorem dX9_board_44 : decode cX9_board 44 = .ok (.iconst 0, 1) := by decide +kernel
theorem dX9_board_45 : decode cX9_board 45 = .ok (.istore_n 3, 1) := by decide +kernel
theorem dX9_board_46 : decode cX9_board 46 = .ok (.iload_n 3, 1) := by decide +kernel
theorem dX9_board_47 : decode cX9_board 47 = .ok (.bipush 101, 2) := by decide +kernel
theorem dX9_board_49 : decode cX9_board 49 = .ok (.if_icmp .ge 26, 3) := by decide +kernel
theorem dX9_board_52 : decode cX9_board 52 = .ok (.aload_n 0, 1) := by decide +kernel
theorem dX9_board_53 : decode cX9_board 53 = .ok (.getfield 39, 3) := by decide +kernel
theorem dX9_board_56 : decode cX9_board 56 = .ok (.bipush 101, 2) := by decide +kernel
theorem dX9_board_58 : decode cX9_board 58 = .ok (.iload_n 1, 1) := by decide +kernel
theorem dX9_board_59 : decode cX9_board 59 = .ok (.imul, 1) := by decide +kernel
theorem dX9_board_60 : decode cX9_board 60 = .ok (.iload_n 3, 1) := by decide +kernel
theorem dX9_board_61 : decode cX9_board 61 = .ok (.iadd, 1) := by decide +kernel
theorem dX9_board_62 : decode cX9_board 62 = .ok (.aload_n 0, 1) := by decide +kernel
theorem dX9_board_63 : decode cX9_board 63 = .ok (.getfield 45, 3) := by decide +kernel
theorem dX9_board_66 : decode cX9_board 66 = .ok (.iload_n 3, 1) := by decide +kernel
theorem dX9_board_67 : decode cX9_board 67 = .ok (.iaload, 1) := by decide +kernel
theorem dX9_board_68 : decode cX9_board 68 = .ok (.iastore, 1) := by decide +kernel
theorem dX9_board_69 : decode cX9_board 69 = .ok (.iinc 3 1, 3) := by decide +kernel
theorem dX9_board_72 : decode cX9_board 72 = .ok (.goto (-26), 3) := by decide +kernel
theorem dX9_board_75 : decode cX9_board 75 = .ok (.aload_n 0, 1) := by decide +kernel
theorem dX9_board_76 : decode cX9_board 76 = .ok (.getfield 36, 3) := by decide +kernel
theorem dX9_board_79 : decode cX9_board 79 = .ok (.iload_n 1, 1) := by decide +kernel
theorem dX9_board_80 : decode cX9_board 80 = .ok (.iconst 1, 1) := by decide +kernel
theorem dX9_board_81 : decode cX9_board 81 = .ok (.bastore, 1) := by decide +kernel
theorem dX9_board_82 : decode cX9_board 82 = .ok (.aload_n 0, 1) := by decide +kernel
theorem dX9_board_83 : decode cX9_board 83 = .ok (.getfield 127, 3) := by decide +kernel
theorem dX9_board_86 : decode cX9_board 86 = .ok (.ireturn, 1) := by decide +kernel
theorem dX9_about_0 : decode cX9_about 0 = .ok (.iload_n 1, 1) := by decide +kernel
theorem dX9_about_1 : decode cX9_about 1 = .ok (.invokestatic 139, 3) := by decide +kernel
theorem dX9_about_4 : decode cX9_about 4 = .ok (.ifCond .eq 13, 3) := by decide +kernel
theorem dX9_about_7 : decode cX9_about 7 = .ok (.iload_n 2, 1) := by decide +kernel
theorem dX9_about_8 : decode cX9_about 8 = .ok (.iconst 0, 1) := by decide +kernel
theorem dX9_about_9 : decode cX9_about 9 = .ok (.bipush 6, 2) := by decide +kernel
theorem dX9_about_11 : decode cX9_about 11 = .ok (.invokestatic 80, 3) := by decide +kernel
theorem dX9_about_14 : decode cX9_about 14 = .ok (.ifCond .ne 5, 3) := by decide +kernel
theorem dX9_about_17 : decode cX9_about 17 = .ok (.iconst (-1), 1) := by decide +kernel
theorem dX9_about_18 : decode cX9_about 18 = .ok (.ireturn, 1) := by decide +kernel
theorem dX9_about_19 : decode cX9_about 19 = .ok (.aload_n 0, 1) := by decide +kernel
theorem dX9_about_20 : decode cX9_about 20 = .ok (.getfield 29, 3) := by decide +kernel
theorem dX9_about_23 : decode cX9_about 23 = .ok (.iload_n 1, 1) := by decide +kernel
theorem dX9_about_24 : decode cX9_about 24 = .ok (.baload, 1) := by decide +kernel
theorem dX9_about_25 : decode cX9_about 25 = .ok (.ifCond .eq 22, 3) := by decide +kernel
theorem dX9_about_28 : decode cX9_about 28 = .ok (.aload_n 0, 1) := by decide +kernel
theorem dX9_about_29 : decode cX9_about 29 = .ok (.aload_n 0, 1) := by decide +kernel
theorem dX9_about_30 : decode cX9_about 30 = .ok (.getfield 33, 3) := by decide +kernel
theorem dX9_about_33 : decode cX9_about 33 = .ok (.bipush 7, 2) := by decide +kernel
theorem dX9_about_35 : decode cX9_about 35 = .ok (.iload_n 1, 1) := by decide +kernel
theorem dX9_about_36 : decode cX9_about 36 = .ok (.imul, 1) := by decide +kernel
theorem dX9_about_37 : decode cX9_about 37 = .ok (.iload_n 2, 1) := by decide +kernel
theorem dX9_about_38 : decode cX9_about 38 = .ok (.iadd, 1) := by decide +kernel
theorem dX9_about_39 : decode cX9_about 39 = .ok (.iaload, 1) := by decide +kernel
theorem dX9_about_40 : decode cX9_about 40 = .ok (.iconst 1, 1) := by decide +kernel
theorem dX9_about_41 : decode cX9_about 41 = .ok (.invokevirtual 102, 3) := by decide +kernel
theorem dX9_about_44 : decode cX9_about 44 = .ok (.goto 8, 3) := by decide +kernel
theorem dX9_about_47 : decode cX9_about 47 = .ok (.aload_n 0, 1) := by decide +kernel
theorem dX9_about_48 : decode cX9_about 48 = .ok (.iconst 1, 1) := by decide +kernel
theorem dX9_about_49 : decode cX9_about 49 = .ok (.invokevirtual 94, 3) := by decide +kernel
theorem dX9_about_52 : decode cX9_about 52 = .ok (.ireturn, 1) := by decide +kernel
theorem dX9_rub_0 : decode cX9_rub 0 = .ok (.iload_n 1, 1) := by decide +kernel
theorem dX9_rub_1 : decode cX9_rub 1 = .ok (.invokestatic 139, 3) := by decide +kernel
theorem dX9_rub_4 : decode cX9_rub 4 = .ok (.ifCond .eq 13, 3) := by decide +kernel
theorem dX9_rub_7 : decode cX9_rub 7 = .ok (.iload_n 2, 1) := by decide +kernel
theorem dX9_rub_8 : decode cX9_rub 8 = .ok (.iconst 0, 1) := by decide +kernel
theorem dX9_rub_9 : decode cX9_rub 9 = .ok (.bipush 99, 2) := by decide +kernel
theorem dX9_rub_11 : decode cX9_rub 11 = .ok (.invokestatic 80, 3) := by decide +kernel
theorem dX9_rub_14 : decode cX9_rub 14 = .ok (.ifCond .ne 5, 3) := by decide +kernel
theorem dX9_rub_17 : decode cX9_rub 17 = .ok (.iconst (-1), 1) := by decide +kernel
theorem dX9_rub_18 : decode cX9_rub 18 = .ok (.ireturn, 1) := by decide +kernel
theorem dX9_rub_19 : decode cX9_rub 19 = .ok (.aload_n 0, 1) := by decide +kernel
theorem dX9_rub_20 : decode cX9_rub 20 = .ok (.getfield 36, 3) := by decide +kernel
theorem dX9_rub_23 : decode cX9_rub 23 = .ok (.iload_n 1, 1) := by decide +kernel
theorem dX9_rub_24 : decode cX9_rub 24 = .ok (.baload, 1) := by decide +kernel
theorem dX9_rub_25 : decode cX9_rub 25 = .ok (.ifCond .eq 32, 3) := by decide +kernel
theorem dX9_rub_28 : decode cX9_rub 28 = .ok (.aload_n 0, 1) := by decide +kernel
theorem dX9_rub_29 : decode cX9_rub 29 = .ok (.aload_n 0, 1) := by decide +kernel
theorem dX9_rub_30 : decode cX9_rub 30 = .ok (.getfield 39, 3) := by decide +kernel
theorem dX9_rub_33 : decode cX9_rub 33 = .ok (.bipush 101, 2) := by decide +kernel
theorem dX9_rub_35 : decode cX9_rub 35 = .ok (.iload_n 1, 1) := by decide +kernel
theorem dX9_rub_36 : decode cX9_rub 36 = .ok (.imul, 1) := by decide +kernel
theorem dX9_rub_37 : decode cX9_rub 37 = .ok (.iconst 1, 1) := by decide +kernel
theorem dX9_rub_38 : decode cX9_rub 38 = .ok (.iadd, 1) := by decide +kernel
theorem dX9_rub_39 : decode cX9_rub 39 = .ok (.iload_n 2, 1) := by decide +kernel
theorem dX9_rub_40 : decode cX9_rub 40 = .ok (.iadd, 1) := by decide +kernel
theorem dX9_rub_41 : decode cX9_rub 41 = .ok (.iaload, 1) := by decide +kernel
theorem dX9_rub_42 : decode cX9_rub 42 = .ok (.aload_n 0, 1) := by decide +kernel
theorem dX9_rub_43 : decode cX9_rub 43 = .ok (.getfield 39, 3) := by decide +kernel
theorem dX9_rub_46 : decode cX9_rub 46 = .ok (.bipush 101, 2) := by decide +kernel
theorem dX9_rub_48 : decode cX9_rub 48 = .ok (.iload_n 1, 1) := by decide +kernel
theorem dX9_rub_49 : decode cX9_rub 49 = .ok (.imul, 1) := by decide +kernel
theorem dX9_rub_50 : decode cX9_rub 50 = .ok (.iaload, 1) := by decide +kernel
theorem dX9_rub_51 : decode cX9_rub 51 = .ok (.invokevirtual 102, 3) := by decide +kernel
theorem dX9_rub_54 : decode cX9_rub 54 = .ok (.goto 8, 3) := by decide +kernel
theorem dX9_rub_57 : decode cX9_rub 57 = .ok (.aload_n 0, 1) := by decide +kernel
theorem dX9_rub_58 : decode cX9_rub 58 = .ok (.iconst 1, 1) := by decide +kernel
theorem dX9_rub_59 : decode cX9_rub 59 = .ok (.invokevirtual 94, 3) := by decide +kernel
theorem dX9_rub_62 : decode cX9_rub 62 = .ok (.ireturn, 1) := by decide +kernel
theorem dX9_wax_0 : decode cX9_wax 0 = .ok (.iload_n 1, 1) := by decide +kernel
theorem dX9_wax_1 : decode cX9_wax 1 = .ok (.invokestatic 139, 3) := by decide +kernel
theorem dX9_wax_4 : decode cX9_wax 4 = .ok (.ifCond .eq 22, 3) := by decide +kernel
theorem dX9_wax_7 : decode cX9_wax 7 = .ok (.iload_n 2, 1) := by decide +kernel
theorem dX9_wax_8 : decode cX9_wax 8 = .ok (.iconst 0, 1) := by decide +kernel
theorem dX9_wax_9 : decode cX9_wax 9 = .ok (.iconst 1, 1) := by decide +kernel
theorem dX9_wax_10 : decode cX9_wax 10 = .ok (.invokestatic 80, 3) := by decide +kernel
theorem dX9_wax_13 : decode cX9_wax 13 = .ok (.ifCond .eq 13, 3) := by decide +kernel
theorem dX9_wax_16 : decode cX9_wax 16 = .ok (.iload_n 3, 1) := by decide +kernel
theorem dX9_wax_17 : decode cX9_wax 17 = .ok (.iconst 0, 1) := by decide +kernel
theorem dX9_wax_18 : decode cX9_wax 18 = .ok (.bipush 9, 2) := by decide +kernel
theorem dX9_wax_20 : decode cX9_wax 20 = .ok (.invokestatic 80, 3) := by decide +kernel
theorem dX9_wax_23 : decode cX9_wax 23 = .ok (.ifCond .ne 5, 3) := by decide +kernel
theorem dX9_wax_26 : decode cX9_wax 26 = .ok (.iconst (-1), 1) := by decide +kernel
theorem dX9_wax_27 : decode cX9_wax 27 = .ok (.ireturn, 1) := by decide +kernel
theorem dX9_wax_28 : decode cX9_wax 28 = .ok (.aload_n 0, 1) := by decide +kernel
theorem dX9_wax_29 : decode cX9_wax 29 = .ok (.getfield 29, 3) := by decide +kernel
theorem dX9_wax_32 : decode cX9_wax 32 = .ok (.iload_n 1, 1) := by decide +kernel
theorem dX9_wax_33 : decode cX9_wax 33 = .ok (.baload, 1) := by decide +kernel
theorem dX9_wax_34 : decode cX9_wax 34 = .ok (.ifCond .ne 9, 3) := by decide +kernel
theorem dX9_wax_37 : decode cX9_wax 37 = .ok (.aload_n 0, 1) := by decide +kernel
theorem dX9_wax_38 : decode cX9_wax 38 = .ok (.iconst 1, 1) := by decide +kernel
theorem dX9_wax_39 : decode cX9_wax 39 = .ok (.invokevirtual 94, 3) := by decide +kernel
theorem dX9_wax_42 : decode cX9_wax 42 = .ok (.ireturn, 1) := by decide +kernel
theorem dX9_wax_43 : decode cX9_wax 43 = .ok (.aload_n 0, 1) := by decide +kernel
theorem dX9_wax_44 : decode cX9_wax 44 = .ok (.getfield 33, 3) := by decide +kernel
theorem dX9_wax_47 : decode cX9_wax 47 = .ok (.bipush 7, 2) := by decide +kernel
theorem dX9_wax_49 : decode cX9_wax 49 = .ok (.iload_n 1, 1) := by decide +kernel
theorem dX9_wax_50 : decode cX9_wax 50 = .ok (.imul, 1) := by decide +kernel
theorem dX9_wax_51 : decode cX9_wax 51 = .ok (.iconst 4, 1) := by decide +kernel
end
section
theorem dX9_wax_52 : decode cX9_wax 52 = .ok (.iadd, 1) := by decide +kernel
theorem dX9_wax_53 : decode cX9_wax 53 = .ok (.iload_n 2, 1) := by decide +kernel
theorem dX9_wax_54 : decode cX9_wax 54 = .ok (.iadd, 1) := by decide +kernel
theorem dX9_wax_55 : decode cX9_wax 55 = .ok (.iaload, 1) := by decide +kernel
theorem dX9_wax_56 : decode cX9_wax 56 = .ok (.istore 4, 2) := by decide +kernel
theorem dX9_wax_58 : decode cX9_wax 58 = .ok (.aload_n 0, 1) := by decide +kernel
theorem dX9_wax_59 : decode cX9_wax 59 = .ok (.getfield 33, 3) := by decide +kernel
theorem dX9_wax_62 : decode cX9_wax 62 = .ok (.bipush 7, 2) := by decide +kernel
theorem dX9_wax_64 : decode cX9_wax 64 = .ok (.iload_n 1, 1) := by decide +kernel
theorem dX9_wax_65 : decode cX9_wax 65 = .ok (.imul, 1) := by decide +kernel
theorem dX9_wax_66 : decode cX9_wax 66 = .ok (.iconst 4, 1) := by decide +kernel
theorem dX9_wax_67 : decode cX9_wax 67 = .ok (.iadd, 1) := by decide +kernel
theorem dX9_wax_68 : decode cX9_wax 68 = .ok (.iload_n 2, 1) := by decide +kernel
theorem dX9_wax_69 : decode cX9_wax 69 = .ok (.iadd, 1) := by decide +kernel
theorem dX9_wax_70 : decode cX9_wax 70 = .ok (.iload_n 3, 1) := by decide +kernel
theorem dX9_wax_71 : decode cX9_wax 71 = .ok (.iastore, 1) := by decide +kernel
theorem dX9_wax_72 : decode cX9_wax 72 = .ok (.iload 4, 2) := by decide +kernel
theorem dX9_wax_74 : decode cX9_wax 74 = .ok (.ireturn, 1) := by decide +kernel
theorem dX9_looksAt_0 : decode cX9_looksAt 0 = .ok (.iconst 0, 1) := by decide +kernel
theorem dX9_looksAt_1 : decode cX9_looksAt 1 = .ok (.istore 4, 2) := by decide +kernel
theorem dX9_looksAt_3 : decode cX9_looksAt 3 = .ok (.iload 4, 2) := by decide +kernel
theorem dX9_looksAt_5 : decode cX9_looksAt 5 = .ok (.bipush 6, 2) := by decide +kernel
theorem dX9_looksAt_7 : decode cX9_looksAt 7 = .ok (.if_icmp .ge 28, 3) := by decide +kernel
theorem dX9_looksAt_10 : decode cX9_looksAt 10 = .ok (.aload_n 0, 1) := by decide +kernel
theorem dX9_looksAt_11 : decode cX9_looksAt 11 = .ok (.getfield 48, 3) := by decide +kernel
theorem dX9_looksAt_14 : decode cX9_looksAt 14 = .ok (.iload 4, 2) := by decide +kernel
theorem dX9_looksAt_16 : decode cX9_looksAt 16 = .ok (.aload_n 0, 1) := by decide +kernel
theorem dX9_looksAt_17 : decode cX9_looksAt 17 = .ok (.getfield 33, 3) := by decide +kernel
theorem dX9_looksAt_20 : decode cX9_looksAt 20 = .ok (.bipush 7, 2) := by decide +kernel
theorem dX9_looksAt_22 : decode cX9_looksAt 22 = .ok (.iload_n 1, 1) := by decide +kernel
theorem dX9_looksAt_23 : decode cX9_looksAt 23 = .ok (.imul, 1) := by decide +kernel
theorem dX9_looksAt_24 : decode cX9_looksAt 24 = .ok (.iload 4, 2) := by decide +kernel
theorem dX9_looksAt_26 : decode cX9_looksAt 26 = .ok (.iadd, 1) := by decide +kernel
theorem dX9_looksAt_27 : decode cX9_looksAt 27 = .ok (.iaload, 1) := by decide +kernel
theorem dX9_looksAt_28 : decode cX9_looksAt 28 = .ok (.iastore, 1) := by decide +kernel
theorem dX9_looksAt_29 : decode cX9_looksAt 29 = .ok (.iinc 4 1, 3) := by decide +kernel
theorem dX9_looksAt_32 : decode cX9_looksAt 32 = .ok (.goto (-29), 3) := by decide +kernel
theorem dX9_looksAt_35 : decode cX9_looksAt 35 = .ok (.aload_n 0, 1) := by decide +kernel
theorem dX9_looksAt_36 : decode cX9_looksAt 36 = .ok (.aload_n 0, 1) := by decide +kernel
theorem dX9_looksAt_37 : decode cX9_looksAt 37 = .ok (.getfield 39, 3) := by decide +kernel
theorem dX9_looksAt_40 : decode cX9_looksAt 40 = .ok (.bipush 101, 2) := by decide +kernel
theorem dX9_looksAt_42 : decode cX9_looksAt 42 = .ok (.iload_n 2, 1) := by decide +kernel
theorem dX9_looksAt_43 : decode cX9_looksAt 43 = .ok (.imul, 1) := by decide +kernel
theorem dX9_looksAt_44 : decode cX9_looksAt 44 = .ok (.iaload, 1) := by decide +kernel
theorem dX9_looksAt_45 : decode cX9_looksAt 45 = .ok (.putfield 145, 3) := by decide +kernel
theorem dX9_looksAt_48 : decode cX9_looksAt 48 = .ok (.aload_n 0, 1) := by decide +kernel
theorem dX9_looksAt_49 : decode cX9_looksAt 49 = .ok (.iload_n 3, 1) := by decide +kernel
theorem dX9_looksAt_50 : decode cX9_looksAt 50 = .ok (.putfield 148, 3) := by decide +kernel
theorem dX9_looksAt_53 : decode cX9_looksAt 53 = .ok (.aload_n 0, 1) := by decide +kernel
theorem dX9_looksAt_54 : decode cX9_looksAt 54 = .ok (.getfield 51, 3) := by decide +kernel
theorem dX9_looksAt_57 : decode cX9_looksAt 57 = .ok (.iconst 0, 1) := by decide +kernel
theorem dX9_looksAt_58 : decode cX9_looksAt 58 = .ok (.iconst 0, 1) := by decide +kernel
theorem dX9_looksAt_59 : decode cX9_looksAt 59 = .ok (.iastore, 1) := by decide +kernel
theorem dX9_looksAt_60 : decode cX9_looksAt 60 = .ok (.aload_n 0, 1) := by decide +kernel
theorem dX9_looksAt_61 : decode cX9_looksAt 61 = .ok (.getfield 51, 3) := by decide +kernel
theorem dX9_looksAt_64 : decode cX9_looksAt 64 = .ok (.iconst 1, 1) := by decide +kernel
theorem dX9_looksAt_65 : decode cX9_looksAt 65 = .ok (.iconst 0, 1) := by decide +kernel
theorem dX9_looksAt_66 : decode cX9_looksAt 66 = .ok (.iastore, 1) := by decide +kernel
theorem dX9_looksAt_67 : decode cX9_looksAt 67 = .ok (.aload_n 0, 1) := by decide +kernel
theorem dX9_looksAt_68 : decode cX9_looksAt 68 = .ok (.bipush (-9), 2) := by decide +kernel
theorem dX9_looksAt_70 : decode cX9_looksAt 70 = .ok (.putfield 151, 3) := by decide +kernel
theorem dX9_looksAt_73 : decode cX9_looksAt 73 = .ok (.return_, 1) := by decide +kernel
theorem dX9_starts_0 : decode cX9_starts 0 = .ok (.aload_n 0, 1) := by decide +kernel
theorem dX9_starts_1 : decode cX9_starts 1 = .ok (.iload_n 1, 1) := by decide +kernel
theorem dX9_starts_2 : decode cX9_starts 2 = .ok (.putfield 154, 3) := by decide +kernel
theorem dX9_starts_5 : decode cX9_starts 5 = .ok (.aload_n 0, 1) := by decide +kernel
theorem dX9_starts_6 : decode cX9_starts 6 = .ok (.iload_n 2, 1) := by decide +kernel
theorem dX9_starts_7 : decode cX9_starts 7 = .ok (.putfield 157, 3) := by decide +kernel
theorem dX9_starts_10 : decode cX9_starts 10 = .ok (.aload_n 0, 1) := by decide +kernel
theorem dX9_starts_11 : decode cX9_starts 11 = .ok (.iconst 0, 1) := by decide +kernel
theorem dX9_starts_12 : decode cX9_starts 12 = .ok (.putfield 160, 3) := by decide +kernel
theorem dX9_starts_15 : decode cX9_starts 15 = .ok (.aload_n 0, 1) := by decide +kernel
theorem dX9_starts_16 : decode cX9_starts 16 = .ok (.iconst 0, 1) := by decide +kernel
theorem dX9_starts_17 : decode cX9_starts 17 = .ok (.putfield 163, 3) := by decide +kernel
theorem dX9_starts_20 : decode cX9_starts 20 = .ok (.aload_n 0, 1) := by decide +kernel
theorem dX9_starts_21 : decode cX9_starts 21 = .ok (.iconst 0, 1) := by decide +kernel
theorem dX9_starts_22 : decode cX9_starts 22 = .ok (.putfield 166, 3) := by decide +kernel
theorem dX9_starts_25 : decode cX9_starts 25 = .ok (.return_, 1) := by decide +kernel
theorem dX9_gain_0 : decode cX9_gain 0 = .ok (.aload_n 0, 1) := by decide +kernel
theorem dX9_gain_1 : decode cX9_gain 1 = .ok (.getfield 148, 3) := by decide +kernel
theorem dX9_gain_4 : decode cX9_gain 4 = .ok (.aload_n 0, 1) := by decide +kernel
theorem dX9_gain_5 : decode cX9_gain 5 = .ok (.getfield 48, 3) := by decide +kernel
theorem dX9_gain_8 : decode cX9_gain 8 = .ok (.iconst 3, 1) := by decide +kernel
theorem dX9_gain_9 : decode cX9_gain 9 = .ok (.iaload, 1) := by decide +kernel
theorem dX9_gain_10 : decode cX9_gain 10 = .ok (.imul, 1) := by decide +kernel
theorem dX9_gain_11 : decode cX9_gain 11 = .ok (.bipush 10, 2) := by decide +kernel
theorem dX9_gain_13 : decode cX9_gain 13 = .ok (.idiv, 1) := by decide +kernel
theorem dX9_gain_14 : decode cX9_gain 14 = .ok (.aload_n 0, 1) := by decide +kernel
theorem dX9_gain_15 : decode cX9_gain 15 = .ok (.getfield 48, 3) := by decide +kernel
theorem dX9_gain_18 : decode cX9_gain 18 = .ok (.iconst 4, 1) := by decide +kernel
theorem dX9_gain_19 : decode cX9_gain 19 = .ok (.aload_n 0, 1) := by decide +kernel
theorem dX9_gain_20 : decode cX9_gain 20 = .ok (.getfield 157, 3) := by decide +kernel
theorem dX9_gain_23 : decode cX9_gain 23 = .ok (.iadd, 1) := by decide +kernel
theorem dX9_gain_24 : decode cX9_gain 24 = .ok (.iaload, 1) := by decide +kernel
theorem dX9_gain_25 : decode cX9_gain 25 = .ok (.iadd, 1) := by decide +kernel
theorem dX9_gain_26 : decode cX9_gain 26 = .ok (.aload_n 0, 1) := by decide +kernel
theorem dX9_gain_27 : decode cX9_gain 27 = .ok (.getfield 51, 3) := by decide +kernel
theorem dX9_gain_30 : decode cX9_gain 30 = .ok (.aload_n 0, 1) := by decide +kernel
theorem dX9_gain_31 : decode cX9_gain 31 = .ok (.getfield 157, 3) := by decide +kernel
theorem dX9_gain_34 : decode cX9_gain 34 = .ok (.iaload, 1) := by decide +kernel
theorem dX9_gain_35 : decode cX9_gain 35 = .ok (.iadd, 1) := by decide +kernel
theorem dX9_gain_36 : decode cX9_gain 36 = .ok (.ireturn, 1) := by decide +kernel
theorem dX9_fallsAt_0 : decode cX9_fallsAt 0 = .ok (.bipush 20, 2) := by decide +kernel
theorem dX9_fallsAt_2 : decode cX9_fallsAt 2 = .ok (.bipush 8, 2) := by decide +kernel
theorem dX9_fallsAt_4 : decode cX9_fallsAt 4 = .ok (.aload_n 0, 1) := by decide +kernel
theorem dX9_fallsAt_5 : decode cX9_fallsAt 5 = .ok (.getfield 48, 3) := by decide +kernel
theorem dX9_fallsAt_8 : decode cX9_fallsAt 8 = .ok (.iconst 0, 1) := by decide +kernel
theorem dX9_fallsAt_9 : decode cX9_fallsAt 9 = .ok (.iaload, 1) := by decide +kernel
theorem dX9_fallsAt_10 : decode cX9_fallsAt 10 = .ok (.imul, 1) := by decide +kernel
theorem dX9_fallsAt_11 : decode cX9_fallsAt 11 = .ok (.iadd, 1) := by decide +kernel
theorem dX9_fallsAt_12 : decode cX9_fallsAt 12 = .ok (.ireturn, 1) := by decide +kernel
theorem dX9_step_0 : decode cX9_step 0 = .ok (.aload_n 0, 1) := by decide +kernel
theorem dX9_step_1 : decode cX9_step 1 = .ok (.getfield 154, 3) := by decide +kernel
theorem dX9_step_4 : decode cX9_step 4 = .ok (.aload_n 0, 1) := by decide +kernel
theorem dX9_step_5 : decode cX9_step 5 = .ok (.getfield 154, 3) := by decide +kernel
theorem dX9_step_8 : decode cX9_step 8 = .ok (.imul, 1) := by decide +kernel
theorem dX9_step_9 : decode cX9_step 9 = .ok (.bipush 8, 2) := by decide +kernel
theorem dX9_step_11 : decode cX9_step 11 = .ok (.iconst 2, 1) := by decide +kernel
theorem dX9_step_12 : decode cX9_step 12 = .ok (.aload_n 0, 1) := by decide +kernel
theorem dX9_step_13 : decode cX9_step 13 = .ok (.getfield 48, 3) := by decide +kernel
theorem dX9_step_16 : decode cX9_step 16 = .ok (.iconst 1, 1) := by decide +kernel
theorem dX9_step_17 : decode cX9_step 17 = .ok (.iaload, 1) := by decide +kernel
theorem dX9_step_18 : decode cX9_step 18 = .ok (.imul, 1) := by decide +kernel
theorem dX9_step_19 : decode cX9_step 19 = .ok (.iadd, 1) := by decide +kernel
theorem dX9_step_20 : decode cX9_step 20 = .ok (.aload_n 0, 1) := by decide +kernel
theorem dX9_step_21 : decode cX9_step 21 = .ok (.getfield 48, 3) := by decide +kernel
theorem dX9_step_24 : decode cX9_step 24 = .ok (.iconst 2, 1) := by decide +kernel
theorem dX9_step_25 : decode cX9_step 25 = .ok (.iaload, 1) := by decide +kernel
theorem dX9_step_26 : decode cX9_step 26 = .ok (.isub, 1) := by decide +kernel
theorem dX9_step_27 : decode cX9_step 27 = .ok (.idiv, 1) := by decide +kernel
theorem dX9_step_28 : decode cX9_step 28 = .ok (.istore_n 2, 1) := by decide +kernel
theorem dX9_step_29 : decode cX9_step 29 = .ok (.aload_n 0, 1) := by decide +kernel
theorem dX9_step_30 : decode cX9_step 30 = .ok (.getfield 154, 3) := by decide +kernel
theorem dX9_step_33 : decode cX9_step 33 = .ok (.aload_n 0, 1) := by decide +kernel
theorem dX9_step_34 : decode cX9_step 34 = .ok (.invokevirtual 169, 3) := by decide +kernel
theorem dX9_step_37 : decode cX9_step 37 = .ok (.iadd, 1) := by decide +kernel
theorem dX9_step_38 : decode cX9_step 38 = .ok (.iload_n 2, 1) := by decide +kernel
theorem dX9_step_39 : decode cX9_step 39 = .ok (.isub, 1) := by decide +kernel
theorem dX9_step_40 : decode cX9_step 40 = .ok (.aload_n 0, 1) := by decide +kernel
theorem dX9_step_41 : decode cX9_step 41 = .ok (.getfield 145, 3) := by decide +kernel
theorem dX9_step_44 : decode cX9_step 44 = .ok (.isub, 1) := by decide +kernel
theorem dX9_step_45 : decode cX9_step 45 = .ok (.iload_n 1, 1) := by decide +kernel
theorem dX9_step_46 : decode cX9_step 46 = .ok (.isub, 1) := by decide +kernel
theorem dX9_step_47 : decode cX9_step 47 = .ok (.istore_n 3, 1) := by decide +kernel
theorem dX9_step_48 : decode cX9_step 48 = .ok (.aload_n 0, 1) := by decide +kernel
theorem dX9_step_49 : decode cX9_step 49 = .ok (.dup, 1) := by decide +kernel
theorem dX9_step_50 : decode cX9_step 50 = .ok (.getfield 163, 3) := by decide +kernel
theorem dX9_step_53 : decode cX9_step 53 = .ok (.iload_n 2, 1) := by decide +kernel
theorem dX9_step_54 : decode cX9_step 54 = .ok (.iadd, 1) := by decide +kernel
theorem dX9_step_55 : decode cX9_step 55 = .ok (.putfield 163, 3) := by decide +kernel
theorem dX9_step_58 : decode cX9_step 58 = .ok (.iload_n 3, 1) := by decide +kernel
theorem dX9_step_59 : decode cX9_step 59 = .ok (.iconst 3, 1) := by decide +kernel
theorem dX9_step_60 : decode cX9_step 60 = .ok (.if_icmp .ge 16, 3) := by decide +kernel
theorem dX9_step_63 : decode cX9_step 63 = .ok (.aload_n 0, 1) := by decide +kernel
theorem dX9_step_64 : decode cX9_step 64 = .ok (.iconst 1, 1) := by decide +kernel
theorem dX9_step_65 : decode cX9_step 65 = .ok (.putfield 160, 3) := by decide +kernel
theorem dX9_step_68 : decode cX9_step 68 = .ok (.aload_n 0, 1) := by decide +kernel
theorem dX9_step_69 : decode cX9_step 69 = .ok (.iconst 0, 1) := by decide +kernel
theorem dX9_step_70 : decode cX9_step 70 = .ok (.putfield 154, 3) := by decide +kernel
theorem dX9_step_73 : decode cX9_step 73 = .ok (.goto 34, 3) := by decide +kernel
theorem dX9_step_76 : decode cX9_step 76 = .ok (.aload_n 0, 1) := by decide +kernel
theorem dX9_step_77 : decode cX9_step 77 = .ok (.iload_n 3, 1) := by decide +kernel
theorem dX9_step_78 : decode cX9_step 78 = .ok (.putfield 154, 3) := by decide +kernel
theorem dX9_step_81 : decode cX9_step 81 = .ok (.iload_n 3, 1) := by decide +kernel
theorem dX9_step_82 : decode cX9_step 82 = .ok (.aload_n 0, 1) := by decide +kernel
theorem dX9_step_83 : decode cX9_step 83 = .ok (.invokevirtual 173, 3) := by decide +kernel
theorem dX9_step_86 : decode cX9_step 86 = .ok (.if_icmp .le 11, 3) := by decide +kernel
theorem dX9_step_89 : decode cX9_step 89 = .ok (.aload_n 0, 1) := by decide +kernel
theorem dX9_step_90 : decode cX9_step 90 = .ok (.iconst 2, 1) := by decide +kernel
theorem dX9_step_91 : decode cX9_step 91 = .ok (.putfield 160, 3) := by decide +kernel
theorem dX9_step_94 : decode cX9_step 94 = .ok (.goto 13, 3) := by decide +kernel
theorem dX9_step_97 : decode cX9_step 97 = .ok (.aload_n 0, 1) := by decide +kernel
theorem dX9_step_98 : decode cX9_step 98 = .ok (.iconst 1, 1) := by decide +kernel
theorem dX9_step_99 : decode cX9_step 99 = .ok (.aload_n 0, 1) := by decide +kernel
theorem dX9_step_100 : decode cX9_step 100 = .ok (.getfield 157, 3) := by decide +kernel
theorem dX9_step_103 : decode cX9_step 103 = .ok (.isub, 1) := by decide +kernel
theorem dX9_step_104 : decode cX9_step 104 = .ok (.putfield 157, 3) := by decide +kernel
theorem dX9_step_107 : decode cX9_step 107 = .ok (.aload_n 0, 1) := by decide +kernel
theorem dX9_step_108 : decode cX9_step 108 = .ok (.dup, 1) := by decide +kernel
theorem dX9_step_109 : decode cX9_step 109 = .ok (.getfield 166, 3) := by decide +kernel
theorem dX9_step_112 : decode cX9_step 112 = .ok (.aload_n 0, 1) := by decide +kernel
theorem dX9_step_113 : decode cX9_step 113 = .ok (.getfield 48, 3) := by decide +kernel
theorem dX9_step_116 : decode cX9_step 116 = .ok (.iconst 3, 1) := by decide +kernel
theorem dX9_step_117 : decode cX9_step 117 = .ok (.iaload, 1) := by decide +kernel
theorem dX9_step_118 : decode cX9_step 118 = .ok (.aload_n 0, 1) := by decide +kernel
theorem dX9_step_119 : decode cX9_step 119 = .ok (.getfield 154, 3) := by decide +kernel
theorem dX9_step_122 : decode cX9_step 122 = .ok (.bipush 10, 2) := by decide +kernel
theorem dX9_step_124 : decode cX9_step 124 = .ok (.idiv, 1) := by decide +kernel
theorem dX9_step_125 : decode cX9_step 125 = .ok (.iadd, 1) := by decide +kernel
theorem dX9_step_126 : decode cX9_step 126 = .ok (.iadd, 1) := by decide +kernel
theorem dX9_step_127 : decode cX9_step 127 = .ok (.putfield 166, 3) := by decide +kernel
theorem dX9_step_130 : decode cX9_step 130 = .ok (.return_, 1) := by decide +kernel
theorem dX9_steps_0 : decode cX9_steps 0 = .ok (.aload_n 0, 1) := by decide +kernel
theorem dX9_steps_1 : decode cX9_steps 1 = .ok (.iload_n 1, 1) := by decide +kernel
theorem dX9_steps_2 : decode cX9_steps 2 = .ok (.aload_n 0, 1) := by decide +kernel
theorem dX9_steps_3 : decode cX9_steps 3 = .ok (.getfield 151, 3) := by decide +kernel
theorem dX9_steps_6 : decode cX9_steps 6 = .ok (.if_icmp .ne 10, 3) := by decide +kernel
theorem dX9_steps_9 : decode cX9_steps 9 = .ok (.aload_n 0, 1) := by decide +kernel
theorem dX9_steps_10 : decode cX9_steps 10 = .ok (.getfield 176, 3) := by decide +kernel
theorem dX9_steps_13 : decode cX9_steps 13 = .ok (.goto 4, 3) := by decide +kernel
theorem dX9_steps_16 : decode cX9_steps 16 = .ok (.iconst 0, 1) := by decide +kernel
theorem dX9_steps_17 : decode cX9_steps 17 = .ok (.invokevirtual 179, 3) := by decide +kernel
theorem dX9_steps_20 : decode cX9_steps 20 = .ok (.return_, 1) := by decide +kernel
theorem dX9_copyWalk_0 : decode cX9_copyWalk 0 = .ok (.iconst 0, 1) := by decide +kernel
theorem dX9_copyWalk_1 : decode cX9_copyWalk 1 = .ok (.istore_n 3, 1) := by decide +kernel
theorem dX9_copyWalk_2 : decode cX9_copyWalk 2 = .ok (.iload_n 3, 1) := by decide +kernel
theorem dX9_copyWalk_3 : decode cX9_copyWalk 3 = .ok (.bipush 114, 2) := by decide +kernel
theorem dX9_copyWalk_5 : decode cX9_copyWalk 5 = .ok (.if_icmp .ge 31, 3) := by decide +kernel
theorem dX9_copyWalk_8 : decode cX9_copyWalk 8 = .ok (.aload_n 0, 1) := by decide +kernel
theorem dX9_copyWalk_9 : decode cX9_copyWalk 9 = .ok (.getfield 57, 3) := by decide +kernel
theorem dX9_copyWalk_12 : decode cX9_copyWalk 12 = .ok (.bipush 114, 2) := by decide +kernel
theorem dX9_copyWalk_14 : decode cX9_copyWalk 14 = .ok (.iload_n 2, 1) := by decide +kernel
theorem dX9_copyWalk_15 : decode cX9_copyWalk 15 = .ok (.imul, 1) := by decide +kernel
theorem dX9_copyWalk_16 : decode cX9_copyWalk 16 = .ok (.iload_n 3, 1) := by decide +kernel
theorem dX9_copyWalk_17 : decode cX9_copyWalk 17 = .ok (.iadd, 1) := by decide +kernel
theorem dX9_copyWalk_18 : decode cX9_copyWalk 18 = .ok (.aload_n 0, 1) := by decide +kernel
theorem dX9_copyWalk_19 : decode cX9_copyWalk 19 = .ok (.getfield 57, 3) := by decide +kernel
theorem dX9_copyWalk_22 : decode cX9_copyWalk 22 = .ok (.bipush 114, 2) := by decide +kernel
theorem dX9_copyWalk_24 : decode cX9_copyWalk 24 = .ok (.iload_n 1, 1) := by decide +kernel
theorem dX9_copyWalk_25 : decode cX9_copyWalk 25 = .ok (.imul, 1) := by decide +kernel
theorem dX9_copyWalk_26 : decode cX9_copyWalk 26 = .ok (.iload_n 3, 1) := by decide +kernel
theorem dX9_copyWalk_27 : decode cX9_copyWalk 27 = .ok (.iadd, 1) := by decide +kernel
theorem dX9_copyWalk_28 : decode cX9_copyWalk 28 = .ok (.iaload, 1) := by decide +kernel
theorem dX9_copyWalk_29 : decode cX9_copyWalk 29 = .ok (.iastore, 1) := by decide +kernel
theorem dX9_copyWalk_30 : decode cX9_copyWalk 30 = .ok (.iinc 3 1, 3) := by decide +kernel
theorem dX9_copyWalk_33 : decode cX9_copyWalk 33 = .ok (.goto (-31), 3) := by decide +kernel
theorem dX9_copyWalk_36 : decode cX9_copyWalk 36 = .ok (.return_, 1) := by decide +kernel
theorem dX9_layWalk_0 : decode cX9_layWalk 0 = .ok (.iconst 0, 1) := by decide +kernel
theorem dX9_layWalk_1 : decode cX9_layWalk 1 = .ok (.istore_n 1, 1) := by decide +kernel
theorem dX9_layWalk_2 : decode cX9_layWalk 2 = .ok (.iload_n 1, 1) := by decide +kernel
theorem dX9_layWalk_3 : decode cX9_layWalk 3 = .ok (.bipush 6, 2) := by decide +kernel
theorem dX9_layWalk_5 : decode cX9_layWalk 5 = .ok (.if_icmp .ge 21, 3) := by decide +kernel
theorem dX9_layWalk_8 : decode cX9_layWalk 8 = .ok (.aload_n 0, 1) := by decide +kernel
theorem dX9_layWalk_9 : decode cX9_layWalk 9 = .ok (.getfield 48, 3) := by decide +kernel
theorem dX9_layWalk_12 : decode cX9_layWalk 12 = .ok (.iload_n 1, 1) := by decide +kernel
theorem dX9_layWalk_13 : decode cX9_layWalk 13 = .ok (.aload_n 0, 1) := by decide +kernel
theorem dX9_layWalk_14 : decode cX9_layWalk 14 = .ok (.getfield 57, 3) := by decide +kernel
theorem dX9_layWalk_17 : decode cX9_layWalk 17 = .ok (.iload_n 1, 1) := by decide +kernel
theorem dX9_layWalk_18 : decode cX9_layWalk 18 = .ok (.iaload, 1) := by decide +kernel
theorem dX9_layWalk_19 : decode cX9_layWalk 19 = .ok (.iastore, 1) := by decide +kernel
theorem dX9_layWalk_20 : decode cX9_layWalk 20 = .ok (.iinc 1 1, 3) := by decide +kernel
theorem dX9_layWalk_23 : decode cX9_layWalk 23 = .ok (.goto (-21), 3) := by decide +kernel
theorem dX9_layWalk_26 : decode cX9_layWalk 26 = .ok (.aload_n 0, 1) := by decide +kernel
theorem dX9_layWalk_27 : decode cX9_layWalk 27 = .ok (.aload_n 0, 1) := by decide +kernel
theorem dX9_layWalk_28 : decode cX9_layWalk 28 = .ok (.getfield 57, 3) := by decide +kernel
theorem dX9_layWalk_31 : decode cX9_layWalk 31 = .ok (.bipush 13, 2) := by decide +kernel
theorem dX9_layWalk_33 : decode cX9_layWalk 33 = .ok (.iaload, 1) := by decide +kernel
theorem dX9_layWalk_34 : decode cX9_layWalk 34 = .ok (.putfield 145, 3) := by decide +kernel
theorem dX9_layWalk_37 : decode cX9_layWalk 37 = .ok (.aload_n 0, 1) := by decide +kernel
theorem dX9_layWalk_38 : decode cX9_layWalk 38 = .ok (.aload_n 0, 1) := by decide +kernel
theorem dX9_layWalk_39 : decode cX9_layWalk 39 = .ok (.getfield 57, 3) := by decide +kernel
theorem dX9_layWalk_42 : decode cX9_layWalk 42 = .ok (.bipush 6, 2) := by decide +kernel
theorem dX9_layWalk_44 : decode cX9_layWalk 44 = .ok (.iaload, 1) := by decide +kernel
theorem dX9_layWalk_45 : decode cX9_layWalk 45 = .ok (.putfield 148, 3) := by decide +kernel
theorem dX9_layWalk_48 : decode cX9_layWalk 48 = .ok (.aload_n 0, 1) := by decide +kernel
theorem dX9_layWalk_49 : decode cX9_layWalk 49 = .ok (.getfield 51, 3) := by decide +kernel
theorem dX9_layWalk_52 : decode cX9_layWalk 52 = .ok (.iconst 0, 1) := by decide +kernel
theorem dX9_layWalk_53 : decode cX9_layWalk 53 = .ok (.iconst 0, 1) := by decide +kernel
theorem dX9_layWalk_54 : decode cX9_layWalk 54 = .ok (.iastore, 1) := by decide +kernel
theorem dX9_layWalk_55 : decode cX9_layWalk 55 = .ok (.aload_n 0, 1) := by decide +kernel
theorem dX9_layWalk_56 : decode cX9_layWalk 56 = .ok (.getfield 51, 3) := by decide +kernel
theorem dX9_layWalk_59 : decode cX9_layWalk 59 = .ok (.iconst 1, 1) := by decide +kernel
theorem dX9_layWalk_60 : decode cX9_layWalk 60 = .ok (.iconst 0, 1) := by decide +kernel
theorem dX9_layWalk_61 : decode cX9_layWalk 61 = .ok (.iastore, 1) := by decide +kernel
theorem dX9_layWalk_62 : decode cX9_layWalk 62 = .ok (.aload_n 0, 1) := by decide +kernel
theorem dX9_layWalk_63 : decode cX9_layWalk 63 = .ok (.bipush (-9), 2) := by decide +kernel
theorem dX9_layWalk_65 : decode cX9_layWalk 65 = .ok (.putfield 151, 3) := by decide +kernel
theorem dX9_layWalk_68 : decode cX9_layWalk 68 = .ok (.aload_n 0, 1) := by decide +kernel
theorem dX9_layWalk_69 : decode cX9_layWalk 69 = .ok (.aload_n 0, 1) := by decide +kernel
theorem dX9_layWalk_70 : decode cX9_layWalk 70 = .ok (.getfield 57, 3) := by decide +kernel
theorem dX9_layWalk_73 : decode cX9_layWalk 73 = .ok (.bipush 7, 2) := by decide +kernel
theorem dX9_layWalk_75 : decode cX9_layWalk 75 = .ok (.iaload, 1) := by decide +kernel
theorem dX9_layWalk_76 : decode cX9_layWalk 76 = .ok (.putfield 154, 3) := by decide +kernel
theorem dX9_layWalk_79 : decode cX9_layWalk 79 = .ok (.aload_n 0, 1) := by decide +kernel
theorem dX9_layWalk_80 : decode cX9_layWalk 80 = .ok (.aload_n 0, 1) := by decide +kernel
theorem dX9_layWalk_81 : decode cX9_layWalk 81 = .ok (.getfield 57, 3) := by decide +kernel
theorem dX9_layWalk_84 : decode cX9_layWalk 84 = .ok (.bipush 8, 2) := by decide +kernel
theorem dX9_layWalk_86 : decode cX9_layWalk 86 = .ok (.iaload, 1) := by decide +kernel
theorem dX9_layWalk_87 : decode cX9_layWalk 87 = .ok (.putfield 157, 3) := by decide +kernel
theorem dX9_layWalk_90 : decode cX9_layWalk 90 = .ok (.aload_n 0, 1) := by decide +kernel
theorem dX9_layWalk_91 : decode cX9_layWalk 91 = .ok (.aload_n 0, 1) := by decide +kernel
theorem dX9_layWalk_92 : decode cX9_layWalk 92 = .ok (.getfield 57, 3) := by decide +kernel
theorem dX9_layWalk_95 : decode cX9_layWalk 95 = .ok (.bipush 10, 2) := by decide +kernel
theorem dX9_layWalk_97 : decode cX9_layWalk 97 = .ok (.iaload, 1) := by decide +kernel
theorem dX9_layWalk_98 : decode cX9_layWalk 98 = .ok (.putfield 160, 3) := by decide +kernel
theorem dX9_layWalk_101 : decode cX9_layWalk 101 = .ok (.aload_n 0, 1) := by decide +kernel
theorem dX9_layWalk_102 : decode cX9_layWalk 102 = .ok (.aload_n 0, 1) := by decide +kernel
theorem dX9_layWalk_103 : decode cX9_layWalk 103 = .ok (.getfield 57, 3) := by decide +kernel
theorem dX9_layWalk_106 : decode cX9_layWalk 106 = .ok (.bipush 11, 2) := by decide +kernel
theorem dX9_layWalk_108 : decode cX9_layWalk 108 = .ok (.iaload, 1) := by decide +kernel
theorem dX9_layWalk_109 : decode cX9_layWalk 109 = .ok (.putfield 163, 3) := by decide +kernel
theorem dX9_layWalk_112 : decode cX9_layWalk 112 = .ok (.aload_n 0, 1) := by decide +kernel
theorem dX9_layWalk_113 : decode cX9_layWalk 113 = .ok (.aload_n 0, 1) := by decide +kernel
theorem dX9_layWalk_114 : decode cX9_layWalk 114 = .ok (.getfield 57, 3) := by decide +kernel
theorem dX9_layWalk_117 : decode cX9_layWalk 117 = .ok (.bipush 12, 2) := by decide +kernel
theorem dX9_layWalk_119 : decode cX9_layWalk 119 = .ok (.iaload, 1) := by decide +kernel
theorem dX9_layWalk_120 : decode cX9_layWalk 120 = .ok (.putfield 166, 3) := by decide +kernel
theorem dX9_layWalk_123 : decode cX9_layWalk 123 = .ok (.return_, 1) := by decide +kernel
theorem dX9_storeWalk_0 : decode cX9_storeWalk 0 = .ok (.aload_n 0, 1) := by decide +kernel
theorem dX9_storeWalk_1 : decode cX9_storeWalk 1 = .ok (.getfield 57, 3) := by decide +kernel
theorem dX9_storeWalk_4 : decode cX9_storeWalk 4 = .ok (.bipush 7, 2) := by decide +kernel
theorem dX9_storeWalk_6 : decode cX9_storeWalk 6 = .ok (.aload_n 0, 1) := by decide +kernel
theorem dX9_storeWalk_7 : decode cX9_storeWalk 7 = .ok (.getfield 154, 3) := by decide +kernel
theorem dX9_storeWalk_10 : decode cX9_storeWalk 10 = .ok (.iastore, 1) := by decide +kernel
theorem dX9_storeWalk_11 : decode cX9_storeWalk 11 = .ok (.aload_n 0, 1) := by decide +kernel
theorem dX9_storeWalk_12 : decode cX9_storeWalk 12 = .ok (.getfield 57, 3) := by decide +kernel
theorem dX9_storeWalk_15 : decode cX9_storeWalk 15 = .ok (.bipush 8, 2) := by decide +kernel
theorem dX9_storeWalk_17 : decode cX9_storeWalk 17 = .ok (.aload_n 0, 1) := by decide +kernel
theorem dX9_storeWalk_18 : decode cX9_storeWalk 18 = .ok (.getfield 157, 3) := by decide +kernel
theorem dX9_storeWalk_21 : decode cX9_storeWalk 21 = .ok (.iastore, 1) := by decide +kernel
theorem dX9_storeWalk_22 : decode cX9_storeWalk 22 = .ok (.aload_n 0, 1) := by decide +kernel
theorem dX9_storeWalk_23 : decode cX9_storeWalk 23 = .ok (.getfield 57, 3) := by decide +kernel
theorem dX9_storeWalk_26 : decode cX9_storeWalk 26 = .ok (.bipush 10, 2) := by decide +kernel
theorem dX9_storeWalk_28 : decode cX9_storeWalk 28 = .ok (.aload_n 0, 1) := by decide +kernel
theorem dX9_storeWalk_29 : decode cX9_storeWalk 29 = .ok (.getfield 160, 3) := by decide +kernel
theorem dX9_storeWalk_32 : decode cX9_storeWalk 32 = .ok (.iastore, 1) := by decide +kernel
theorem dX9_storeWalk_33 : decode cX9_storeWalk 33 = .ok (.aload_n 0, 1) := by decide +kernel
theorem dX9_storeWalk_34 : decode cX9_storeWalk 34 = .ok (.getfield 57, 3) := by decide +kernel
theorem dX9_storeWalk_37 : decode cX9_storeWalk 37 = .ok (.bipush 11, 2) := by decide +kernel
theorem dX9_storeWalk_39 : decode cX9_storeWalk 39 = .ok (.aload_n 0, 1) := by decide +kernel
theorem dX9_storeWalk_40 : decode cX9_storeWalk 40 = .ok (.getfield 163, 3) := by decide +kernel
theorem dX9_storeWalk_43 : decode cX9_storeWalk 43 = .ok (.iastore, 1) := by decide +kernel
theorem dX9_storeWalk_44 : decode cX9_storeWalk 44 = .ok (.aload_n 0, 1) := by decide +kernel
theorem dX9_storeWalk_45 : decode cX9_storeWalk 45 = .ok (.getfield 57, 3) := by decide +kernel
theorem dX9_storeWalk_48 : decode cX9_storeWalk 48 = .ok (.bipush 12, 2) := by decide +kernel
theorem dX9_storeWalk_50 : decode cX9_storeWalk 50 = .ok (.aload_n 0, 1) := by decide +kernel
theorem dX9_storeWalk_51 : decode cX9_storeWalk 51 = .ok (.getfield 166, 3) := by decide +kernel
theorem dX9_storeWalk_54 : decode cX9_storeWalk 54 = .ok (.iastore, 1) := by decide +kernel
theorem dX9_storeWalk_55 : decode cX9_storeWalk 55 = .ok (.return_, 1) := by decide +kernel
theorem dX9_walk_0 : decode cX9_walk 0 = .ok (.iload_n 1, 1) := by decide +kernel
theorem dX9_walk_1 : decode cX9_walk 1 = .ok (.invokestatic 139, 3) := by decide +kernel
theorem dX9_walk_4 : decode cX9_walk 4 = .ok (.ifCond .eq 41, 3) := by decide +kernel
theorem dX9_walk_7 : decode cX9_walk 7 = .ok (.iload_n 2, 1) := by decide +kernel
theorem dX9_walk_8 : decode cX9_walk 8 = .ok (.invokestatic 139, 3) := by decide +kernel
theorem dX9_walk_11 : decode cX9_walk 11 = .ok (.ifCond .eq 34, 3) := by decide +kernel
theorem dX9_walk_14 : decode cX9_walk 14 = .ok (.iload_n 3, 1) := by decide +kernel
theorem dX9_walk_15 : decode cX9_walk 15 = .ok (.iconst 0, 1) := by decide +kernel
theorem dX9_walk_16 : decode cX9_walk 16 = .ok (.bipush 99, 2) := by decide +kernel
theorem dX9_walk_18 : decode cX9_walk 18 = .ok (.invokestatic 80, 3) := by decide +kernel
theorem dX9_walk_21 : decode cX9_walk 21 = .ok (.ifCond .eq 24, 3) := by decide +kernel
theorem dX9_walk_24 : decode cX9_walk 24 = .ok (.iload 4, 2) := by decide +kernel
theorem dX9_walk_26 : decode cX9_walk 26 = .ok (.iconst 0, 1) := by decide +kernel
theorem dX9_walk_27 : decode cX9_walk 27 = .ok (.bipush 99, 2) := by decide +kernel
theorem dX9_walk_29 : decode cX9_walk 29 = .ok (.invokestatic 80, 3) := by decide +kernel
theorem dX9_walk_32 : decode cX9_walk 32 = .ok (.ifCond .eq 13, 3) := by decide +kernel
theorem dX9_walk_35 : decode cX9_walk 35 = .ok (.iload 5, 2) := by decide +kernel
theorem dX9_walk_37 : decode cX9_walk 37 = .ok (.iconst 0, 1) := by decide +kernel
theorem dX9_walk_38 : decode cX9_walk 38 = .ok (.iconst 1, 1) := by decide +kernel
theorem dX9_walk_39 : decode cX9_walk 39 = .ok (.invokestatic 80, 3) := by decide +kernel
theorem dX9_walk_42 : decode cX9_walk 42 = .ok (.ifCond .ne 5, 3) := by decide +kernel
theorem dX9_walk_45 : decode cX9_walk 45 = .ok (.iconst (-1), 1) := by decide +kernel
theorem dX9_walk_46 : decode cX9_walk 46 = .ok (.ireturn, 1) := by decide +kernel
theorem dX9_walk_47 : decode cX9_walk 47 = .ok (.aload_n 0, 1) := by decide +kernel
theorem dX9_walk_48 : decode cX9_walk 48 = .ok (.getfield 29, 3) := by decide +kernel
theorem dX9_walk_51 : decode cX9_walk 51 = .ok (.iload_n 1, 1) := by decide +kernel
theorem dX9_walk_52 : decode cX9_walk 52 = .ok (.baload, 1) := by decide +kernel
theorem dX9_walk_53 : decode cX9_walk 53 = .ok (.ifCond .eq 12, 3) := by decide +kernel
theorem dX9_walk_56 : decode cX9_walk 56 = .ok (.aload_n 0, 1) := by decide +kernel
theorem dX9_walk_57 : decode cX9_walk 57 = .ok (.getfield 36, 3) := by decide +kernel
theorem dX9_walk_60 : decode cX9_walk 60 = .ok (.iload_n 2, 1) := by decide +kernel
theorem dX9_walk_61 : decode cX9_walk 61 = .ok (.baload, 1) := by decide +kernel
theorem dX9_walk_62 : decode cX9_walk 62 = .ok (.ifCond .ne 9, 3) := by decide +kernel
theorem dX9_walk_65 : decode cX9_walk 65 = .ok (.aload_n 0, 1) := by decide +kernel
theorem dX9_walk_66 : decode cX9_walk 66 = .ok (.iconst 1, 1) := by decide +kernel
theorem dX9_walk_67 : decode cX9_walk 67 = .ok (.invokevirtual 94, 3) := by decide +kernel
theorem dX9_walk_70 : decode cX9_walk 70 = .ok (.ireturn, 1) := by decide +kernel
theorem dX9_walk_71 : decode cX9_walk 71 = .ok (.iconst 0, 1) := by decide +kernel
theorem dX9_walk_72 : decode cX9_walk 72 = .ok (.istore 6, 2) := by decide +kernel
theorem dX9_walk_74 : decode cX9_walk 74 = .ok (.iload 6, 2) := by decide +kernel
theorem dX9_walk_76 : decode cX9_walk 76 = .ok (.bipush 6, 2) := by decide +kernel
theorem dX9_walk_78 : decode cX9_walk 78 = .ok (.if_icmp .ge 28, 3) := by decide +kernel
theorem dX9_walk_81 : decode cX9_walk 81 = .ok (.aload_n 0, 1) := by decide +kernel
theorem dX9_walk_82 : decode cX9_walk 82 = .ok (.getfield 57, 3) := by decide +kernel
theorem dX9_walk_85 : decode cX9_walk 85 = .ok (.iload 6, 2) := by decide +kernel
theorem dX9_walk_87 : decode cX9_walk 87 = .ok (.aload_n 0, 1) := by decide +kernel
theorem dX9_walk_88 : decode cX9_walk 88 = .ok (.getfield 33, 3) := by decide +kernel
theorem dX9_walk_91 : decode cX9_walk 91 = .ok (.bipush 7, 2) := by decide +kernel
theorem dX9_walk_93 : decode cX9_walk 93 = .ok (.iload_n 1, 1) := by decide +kernel
theorem dX9_walk_94 : decode cX9_walk 94 = .ok (.imul, 1) := by decide +kernel
theorem dX9_walk_95 : decode cX9_walk 95 = .ok (.iload 6, 2) := by decide +kernel
theorem dX9_walk_97 : decode cX9_walk 97 = .ok (.iadd, 1) := by decide +kernel
theorem dX9_walk_98 : decode cX9_walk 98 = .ok (.iaload, 1) := by decide +kernel
theorem dX9_walk_99 : decode cX9_walk 99 = .ok (.iastore, 1) := by decide +kernel
theorem dX9_walk_100 : decode cX9_walk 100 = .ok (.iinc 6 1, 3) := by decide +kernel
theorem dX9_walk_103 : decode cX9_walk 103 = .ok (.goto (-29), 3) := by decide +kernel
theorem dX9_walk_106 : decode cX9_walk 106 = .ok (.iconst 0, 1) := by decide +kernel
theorem dX9_walk_107 : decode cX9_walk 107 = .ok (.istore 6, 2) := by decide +kernel
theorem dX9_walk_109 : decode cX9_walk 109 = .ok (.iload 6, 2) := by decide +kernel
theorem dX9_walk_111 : decode cX9_walk 111 = .ok (.bipush 101, 2) := by decide +kernel
theorem dX9_walk_113 : decode cX9_walk 113 = .ok (.if_icmp .ge 31, 3) := by decide +kernel
theorem dX9_walk_116 : decode cX9_walk 116 = .ok (.aload_n 0, 1) := by decide +kernel
theorem dX9_walk_117 : decode cX9_walk 117 = .ok (.getfield 57, 3) := by decide +kernel
theorem dX9_walk_120 : decode cX9_walk 120 = .ok (.bipush 13, 2) := by decide +kernel
theorem dX9_walk_122 : decode cX9_walk 122 = .ok (.iload 6, 2) := by decide +kernel
theorem dX9_walk_124 : decode cX9_walk 124 = .ok (.iadd, 1) := by decide +kernel
theorem dX9_walk_125 : decode cX9_walk 125 = .ok (.aload_n 0, 1) := by decide +kernel
theorem dX9_walk_126 : decode cX9_walk 126 = .ok (.getfield 39, 3) := by decide +kernel
theorem dX9_walk_129 : decode cX9_walk 129 = .ok (.bipush 101, 2) := by decide +kernel
theorem dX9_walk_131 : decode cX9_walk 131 = .ok (.iload_n 2, 1) := by decide +kernel
theorem dX9_walk_132 : decode cX9_walk 132 = .ok (.imul, 1) := by decide +kernel
theorem dX9_walk_133 : decode cX9_walk 133 = .ok (.iload 6, 2) := by decide +kernel
theorem dX9_walk_135 : decode cX9_walk 135 = .ok (.iadd, 1) := by decide +kernel
theorem dX9_walk_136 : decode cX9_walk 136 = .ok (.iaload, 1) := by decide +kernel
theorem dX9_walk_137 : decode cX9_walk 137 = .ok (.iastore, 1) := by decide +kernel
theorem dX9_walk_138 : decode cX9_walk 138 = .ok (.iinc 6 1, 3) := by decide +kernel
theorem dX9_walk_141 : decode cX9_walk 141 = .ok (.goto (-32), 3) := by decide +kernel
theorem dX9_walk_144 : decode cX9_walk 144 = .ok (.aload_n 0, 1) := by decide +kernel
theorem dX9_walk_145 : decode cX9_walk 145 = .ok (.getfield 57, 3) := by decide +kernel
theorem dX9_walk_148 : decode cX9_walk 148 = .ok (.bipush 6, 2) := by decide +kernel
theorem dX9_walk_150 : decode cX9_walk 150 = .ok (.iload_n 3, 1) := by decide +kernel
theorem dX9_walk_151 : decode cX9_walk 151 = .ok (.iastore, 1) := by decide +kernel
theorem dX9_walk_152 : decode cX9_walk 152 = .ok (.aload_n 0, 1) := by decide +kernel
theorem dX9_walk_153 : decode cX9_walk 153 = .ok (.getfield 57, 3) := by decide +kernel
theorem dX9_walk_156 : decode cX9_walk 156 = .ok (.bipush 9, 2) := by decide +kernel
theorem dX9_walk_158 : decode cX9_walk 158 = .ok (.iconst 0, 1) := by decide +kernel
theorem dX9_walk_159 : decode cX9_walk 159 = .ok (.iastore, 1) := by decide +kernel
theorem dX9_walk_160 : decode cX9_walk 160 = .ok (.aload_n 0, 1) := by decide +kernel
theorem dX9_walk_161 : decode cX9_walk 161 = .ok (.iload 4, 2) := by decide +kernel
theorem dX9_walk_163 : decode cX9_walk 163 = .ok (.iload 5, 2) := by decide +kernel
theorem dX9_walk_165 : decode cX9_walk 165 = .ok (.invokevirtual 183, 3) := by decide +kernel
theorem dX9_walk_168 : decode cX9_walk 168 = .ok (.aload_n 0, 1) := by decide +kernel
theorem dX9_walk_169 : decode cX9_walk 169 = .ok (.invokevirtual 187, 3) := by decide +kernel
theorem dX9_walk_172 : decode cX9_walk 172 = .ok (.aload_n 0, 1) := by decide +kernel
theorem dX9_walk_173 : decode cX9_walk 173 = .ok (.getfield 54, 3) := by decide +kernel
theorem dX9_walk_176 : decode cX9_walk 176 = .ok (.iconst 0, 1) := by decide +kernel
theorem dX9_walk_177 : decode cX9_walk 177 = .ok (.iconst 1, 1) := by decide +kernel
theorem dX9_walk_178 : decode cX9_walk 178 = .ok (.bastore, 1) := by decide +kernel
theorem dX9_walk_179 : decode cX9_walk 179 = .ok (.aload_n 0, 1) := by decide +kernel
theorem dX9_walk_180 : decode cX9_walk 180 = .ok (.invokevirtual 190, 3) := by decide +kernel
theorem dX9_walk_183 : decode cX9_walk 183 = .ok (.aload_n 0, 1) := by decide +kernel
theorem dX9_walk_184 : decode cX9_walk 184 = .ok (.invokevirtual 169, 3) := by decide +kernel
theorem dX9_walk_187 : decode cX9_walk 187 = .ok (.ireturn, 1) := by decide +kernel
theorem dX9_walksOn_0 : decode cX9_walksOn 0 = .ok (.aload_n 0, 1) := by decide +kernel
theorem dX9_walksOn_1 : decode cX9_walksOn 1 = .ok (.getfield 160, 3) := by decide +kernel
theorem dX9_walksOn_4 : decode cX9_walksOn 4 = .ok (.ifCond .eq 5, 3) := by decide +kernel
theorem dX9_walksOn_7 : decode cX9_walksOn 7 = .ok (.iconst 0, 1) := by decide +kernel
theorem dX9_walksOn_8 : decode cX9_walksOn 8 = .ok (.ireturn, 1) := by decide +kernel
theorem dX9_walksOn_9 : decode cX9_walksOn 9 = .ok (.aload_n 0, 1) := by decide +kernel
theorem dX9_walksOn_10 : decode cX9_walksOn 10 = .ok (.getfield 57, 3) := by decide +kernel
theorem dX9_walksOn_13 : decode cX9_walksOn 13 = .ok (.bipush 9, 2) := by decide +kernel
theorem dX9_walksOn_15 : decode cX9_walksOn 15 = .ok (.iaload, 1) := by decide +kernel
theorem dX9_walksOn_16 : decode cX9_walksOn 16 = .ok (.istore_n 1, 1) := by decide +kernel
theorem dX9_walksOn_17 : decode cX9_walksOn 17 = .ok (.aload_n 0, 1) := by decide +kernel
theorem dX9_walksOn_18 : decode cX9_walksOn 18 = .ok (.iload_n 1, 1) := by decide +kernel
theorem dX9_walksOn_19 : decode cX9_walksOn 19 = .ok (.bipush 99, 2) := by decide +kernel
theorem dX9_walksOn_21 : decode cX9_walksOn 21 = .ok (.if_icmp .gt 15, 3) := by decide +kernel
theorem dX9_walksOn_24 : decode cX9_walksOn 24 = .ok (.aload_n 0, 1) := by decide +kernel
theorem dX9_walksOn_25 : decode cX9_walksOn 25 = .ok (.getfield 57, 3) := by decide +kernel
theorem dX9_walksOn_28 : decode cX9_walksOn 28 = .ok (.bipush 14, 2) := by decide +kernel
theorem dX9_walksOn_30 : decode cX9_walksOn 30 = .ok (.iload_n 1, 1) := by decide +kernel
theorem dX9_walksOn_31 : decode cX9_walksOn 31 = .ok (.iadd, 1) := by decide +kernel
theorem dX9_walksOn_32 : decode cX9_walksOn 32 = .ok (.iaload, 1) := by decide +kernel
theorem dX9_walksOn_33 : decode cX9_walksOn 33 = .ok (.goto 4, 3) := by decide +kernel
theorem dX9_walksOn_36 : decode cX9_walksOn 36 = .ok (.iconst 0, 1) := by decide +kernel
theorem dX9_walksOn_37 : decode cX9_walksOn 37 = .ok (.invokevirtual 179, 3) := by decide +kernel
theorem dX9_walksOn_40 : decode cX9_walksOn 40 = .ok (.aload_n 0, 1) := by decide +kernel
theorem dX9_walksOn_41 : decode cX9_walksOn 41 = .ok (.getfield 57, 3) := by decide +kernel
theorem dX9_walksOn_44 : decode cX9_walksOn 44 = .ok (.bipush 9, 2) := by decide +kernel
theorem dX9_walksOn_46 : decode cX9_walksOn 46 = .ok (.dup2, 1) := by decide +kernel
theorem dX9_walksOn_47 : decode cX9_walksOn 47 = .ok (.iaload, 1) := by decide +kernel
theorem dX9_walksOn_48 : decode cX9_walksOn 48 = .ok (.iconst 1, 1) := by decide +kernel
theorem dX9_walksOn_49 : decode cX9_walksOn 49 = .ok (.iadd, 1) := by decide +kernel
theorem dX9_walksOn_50 : decode cX9_walksOn 50 = .ok (.iastore, 1) := by decide +kernel
theorem dX9_walksOn_51 : decode cX9_walksOn 51 = .ok (.iconst 1, 1) := by decide +kernel
theorem dX9_walksOn_52 : decode cX9_walksOn 52 = .ok (.ireturn, 1) := by decide +kernel
theorem dX9_go_0 : decode cX9_go 0 = .ok (.iload_n 1, 1) := by decide +kernel
theorem dX9_go_1 : decode cX9_go 1 = .ok (.iconst 0, 1) := by decide +kernel
theorem dX9_go_2 : decode cX9_go 2 = .ok (.sipush 400, 3) := by decide +kernel
theorem dX9_go_5 : decode cX9_go 5 = .ok (.invokestatic 80, 3) := by decide +kernel
theorem dX9_go_8 : decode cX9_go 8 = .ok (.ifCond .ne 5, 3) := by decide +kernel
theorem dX9_go_11 : decode cX9_go 11 = .ok (.iconst (-1), 1) := by decide +kernel
theorem dX9_go_12 : decode cX9_go 12 = .ok (.ireturn, 1) := by decide +kernel
theorem dX9_go_13 : decode cX9_go 13 = .ok (.aload_n 0, 1) := by decide +kernel
theorem dX9_go_14 : decode cX9_go 14 = .ok (.getfield 54, 3) := by decide +kernel
theorem dX9_go_17 : decode cX9_go 17 = .ok (.iconst 0, 1) := by decide +kernel
theorem dX9_go_18 : decode cX9_go 18 = .ok (.baload, 1) := by decide +kernel
theorem dX9_go_19 : decode cX9_go 19 = .ok (.ifCond .ne 6, 3) := by decide +kernel
theorem dX9_go_22 : decode cX9_go 22 = .ok (.bipush (-4), 2) := by decide +kernel
theorem dX9_go_24 : decode cX9_go 24 = .ok (.ireturn, 1) := by decide +kernel
theorem dX9_go_25 : decode cX9_go 25 = .ok (.aload_n 0, 1) := by decide +kernel
theorem dX9_go_26 : decode cX9_go 26 = .ok (.getfield 57, 3) := by decide +kernel
theorem dX9_go_29 : decode cX9_go 29 = .ok (.bipush 9, 2) := by decide +kernel
theorem dX9_go_31 : decode cX9_go 31 = .ok (.iaload, 1) := by decide +kernel
theorem dX9_go_32 : decode cX9_go 32 = .ok (.iload_n 1, 1) := by decide +kernel
theorem dX9_go_33 : decode cX9_go 33 = .ok (.iadd, 1) := by decide +kernel
theorem dX9_go_34 : decode cX9_go 34 = .ok (.sipush 10000, 3) := by decide +kernel
theorem dX9_go_37 : decode cX9_go 37 = .ok (.if_icmp .le 6, 3) := by decide +kernel
theorem dX9_go_40 : decode cX9_go 40 = .ok (.bipush (-6), 2) := by decide +kernel
theorem dX9_go_42 : decode cX9_go 42 = .ok (.ireturn, 1) := by decide +kernel
theorem dX9_go_43 : decode cX9_go 43 = .ok (.aload_n 0, 1) := by decide +kernel
theorem dX9_go_44 : decode cX9_go 44 = .ok (.invokevirtual 190, 3) := by decide +kernel
theorem dX9_go_47 : decode cX9_go 47 = .ok (.iconst 0, 1) := by decide +kernel
theorem dX9_go_48 : decode cX9_go 48 = .ok (.istore_n 2, 1) := by decide +kernel
theorem dX9_go_49 : decode cX9_go 49 = .ok (.iload_n 2, 1) := by decide +kernel
theorem dX9_go_50 : decode cX9_go 50 = .ok (.iload_n 1, 1) := by decide +kernel
theorem dX9_go_51 : decode cX9_go 51 = .ok (.if_icmp .ge 16, 3) := by decide +kernel
theorem dX9_go_54 : decode cX9_go 54 = .ok (.aload_n 0, 1) := by decide +kernel
theorem dX9_go_55 : decode cX9_go 55 = .ok (.invokevirtual 193, 3) := by decide +kernel
theorem dX9_go_58 : decode cX9_go 58 = .ok (.ifCond .eq 9, 3) := by decide +kernel
theorem dX9_go_61 : decode cX9_go 61 = .ok (.iinc 2 1, 3) := by decide +kernel
theorem dX9_go_64 : decode cX9_go 64 = .ok (.goto (-15), 3) := by decide +kernel
theorem dX9_go_67 : decode cX9_go 67 = .ok (.aload_n 0, 1) := by decide +kernel
theorem dX9_go_68 : decode cX9_go 68 = .ok (.invokevirtual 187, 3) := by decide +kernel
theorem dX9_go_71 : decode cX9_go 71 = .ok (.iload_n 2, 1) := by decide +kernel
theorem dX9_go_72 : decode cX9_go 72 = .ok (.ireturn, 1) := by decide +kernel
theorem dX9_walkTells_0 : decode cX9_walkTells 0 = .ok (.iload_n 1, 1) := by decide +kernel
theorem dX9_walkTells_1 : decode cX9_walkTells 1 = .ok (.tableswitch 87 0 5 #[39, 47, 55, 63, 71, 79], 39) := by decide +kernel
theorem dX9_walkTells_40 : decode cX9_walkTells 40 = .ok (.aload_n 0, 1) := by decide +kernel
theorem dX9_walkTells_41 : decode cX9_walkTells 41 = .ok (.getfield 57, 3) := by decide +kernel
theorem dX9_walkTells_44 : decode cX9_walkTells 44 = .ok (.bipush 7, 2) := by decide +kernel
theorem dX9_walkTells_46 : decode cX9_walkTells 46 = .ok (.iaload, 1) := by decide +kernel
theorem dX9_walkTells_47 : decode cX9_walkTells 47 = .ok (.ireturn, 1) := by decide +kernel
theorem dX9_walkTells_48 : decode cX9_walkTells 48 = .ok (.aload_n 0, 1) := by decide +kernel
theorem dX9_walkTells_49 : decode cX9_walkTells 49 = .ok (.getfield 57, 3) := by decide +kernel
theorem dX9_walkTells_52 : decode cX9_walkTells 52 = .ok (.bipush 8, 2) := by decide +kernel
theorem dX9_walkTells_54 : decode cX9_walkTells 54 = .ok (.iaload, 1) := by decide +kernel
theorem dX9_walkTells_55 : decode cX9_walkTells 55 = .ok (.ireturn, 1) := by decide +kernel
theorem dX9_walkTells_56 : decode cX9_walkTells 56 = .ok (.aload_n 0, 1) := by decide +kernel
theorem dX9_walkTells_57 : decode cX9_walkTells 57 = .ok (.getfield 57, 3) := by decide +kernel
theorem dX9_walkTells_60 : decode cX9_walkTells 60 = .ok (.bipush 9, 2) := by decide +kernel
theorem dX9_walkTells_62 : decode cX9_walkTells 62 = .ok (.iaload, 1) := by decide +kernel
theorem dX9_walkTells_63 : decode cX9_walkTells 63 = .ok (.ireturn, 1) := by decide +kernel
theorem dX9_walkTells_64 : decode cX9_walkTells 64 = .ok (.aload_n 0, 1) := by decide +kernel
theorem dX9_walkTells_65 : decode cX9_walkTells 65 = .ok (.getfield 57, 3) := by decide +kernel
theorem dX9_walkTells_68 : decode cX9_walkTells 68 = .ok (.bipush 10, 2) := by decide +kernel
theorem dX9_walkTells_70 : decode cX9_walkTells 70 = .ok (.iaload, 1) := by decide +kernel
theorem dX9_walkTells_71 : decode cX9_walkTells 71 = .ok (.ireturn, 1) := by decide +kernel
theorem dX9_walkTells_72 : decode cX9_walkTells 72 = .ok (.aload_n 0, 1) := by decide +kernel
theorem dX9_walkTells_73 : decode cX9_walkTells 73 = .ok (.getfield 57, 3) := by decide +kernel
theorem dX9_walkTells_76 : decode cX9_walkTells 76 = .ok (.bipush 6, 2) := by decide +kernel
theorem dX9_walkTells_78 : decode cX9_walkTells 78 = .ok (.iaload, 1) := by decide +kernel
theorem dX9_walkTells_79 : decode cX9_walkTells 79 = .ok (.ireturn, 1) := by decide +kernel
theorem dX9_walkTells_80 : decode cX9_walkTells 80 = .ok (.aload_n 0, 1) := by decide +kernel
theorem dX9_walkTells_81 : decode cX9_walkTells 81 = .ok (.getfield 57, 3) := by decide +kernel
theorem dX9_walkTells_84 : decode cX9_walkTells 84 = .ok (.bipush 11, 2) := by decide +kernel
theorem dX9_walkTells_86 : decode cX9_walkTells 86 = .ok (.iaload, 1) := by decide +kernel
theorem dX9_walkTells_87 : decode cX9_walkTells 87 = .ok (.ireturn, 1) := by decide +kernel
theorem dX9_walkTells_88 : decode cX9_walkTells 88 = .ok (.aload_n 0, 1) := by decide +kernel
theorem dX9_walkTells_89 : decode cX9_walkTells 89 = .ok (.getfield 57, 3) := by decide +kernel
theorem dX9_walkTells_92 : decode cX9_walkTells 92 = .ok (.bipush 12, 2) := by decide +kernel
theorem dX9_walkTells_94 : decode cX9_walkTells 94 = .ok (.iaload, 1) := by decide +kernel
theorem dX9_walkTells_95 : decode cX9_walkTells 95 = .ok (.ireturn, 1) := by decide +kernel
theorem dX9_told_0 : decode cX9_told 0 = .ok (.iload_n 1, 1) := by decide +kernel
theorem dX9_told_1 : decode cX9_told 1 = .ok (.iconst 0, 1) := by decide +kernel
theorem dX9_told_2 : decode cX9_told 2 = .ok (.bipush 6, 2) := by decide +kernel
theorem dX9_told_4 : decode cX9_told 4 = .ok (.invokestatic 80, 3) := by decide +kernel
theorem dX9_told_7 : decode cX9_told 7 = .ok (.ifCond .ne 5, 3) := by decide +kernel
theorem dX9_told_10 : decode cX9_told 10 = .ok (.iconst (-1), 1) := by decide +kernel
theorem dX9_told_11 : decode cX9_told 11 = .ok (.ireturn, 1) := by decide +kernel
theorem dX9_told_12 : decode cX9_told 12 = .ok (.aload_n 0, 1) := by decide +kernel
theorem dX9_told_13 : decode cX9_told 13 = .ok (.getfield 54, 3) := by decide +kernel
theorem dX9_told_16 : decode cX9_told 16 = .ok (.iconst 0, 1) := by decide +kernel
theorem dX9_told_17 : decode cX9_told 17 = .ok (.baload, 1) := by decide +kernel
theorem dX9_told_18 : decode cX9_told 18 = .ok (.ifCond .eq 16, 3) := by decide +kernel
theorem dX9_told_21 : decode cX9_told 21 = .ok (.aload_n 0, 1) := by decide +kernel
theorem dX9_told_22 : decode cX9_told 22 = .ok (.aload_n 0, 1) := by decide +kernel
theorem dX9_told_23 : decode cX9_told 23 = .ok (.iload_n 1, 1) := by decide +kernel
theorem dX9_told_24 : decode cX9_told 24 = .ok (.invokevirtual 197, 3) := by decide +kernel
theorem dX9_told_27 : decode cX9_told 27 = .ok (.iconst 1, 1) := by decide +kernel
theorem dX9_told_28 : decode cX9_told 28 = .ok (.invokevirtual 102, 3) := by decide +kernel
theorem dX9_told_31 : decode cX9_told 31 = .ok (.goto 5, 3) := by decide +kernel
theorem dX9_told_34 : decode cX9_told 34 = .ok (.bipush (-4), 2) := by decide +kernel
theorem dX9_told_36 : decode cX9_told 36 = .ok (.ireturn, 1) := by decide +kernel
theorem dX9_tocks_0 : decode cX9_tocks 0 = .ok (.iload_n 1, 1) := by decide +kernel
theorem dX9_tocks_1 : decode cX9_tocks 1 = .ok (.iconst 0, 1) := by decide +kernel
theorem dX9_tocks_2 : decode cX9_tocks 2 = .ok (.bipush 60, 2) := by decide +kernel
theorem dX9_tocks_4 : decode cX9_tocks 4 = .ok (.invokestatic 80, 3) := by decide +kernel
theorem dX9_tocks_7 : decode cX9_tocks 7 = .ok (.ifCond .eq 10, 3) := by decide +kernel
theorem dX9_tocks_10 : decode cX9_tocks 10 = .ok (.iload_n 2, 1) := by decide +kernel
theorem dX9_tocks_11 : decode cX9_tocks 11 = .ok (.invokestatic 90, 3) := by decide +kernel
theorem dX9_tocks_14 : decode cX9_tocks 14 = .ok (.ifCond .ne 5, 3) := by decide +kernel
theorem dX9_tocks_17 : decode cX9_tocks 17 = .ok (.iconst (-1), 1) := by decide +kernel
theorem dX9_tocks_18 : decode cX9_tocks 18 = .ok (.ireturn, 1) := by decide +kernel
theorem dX9_tocks_19 : decode cX9_tocks 19 = .ok (.aload_n 0, 1) := by decide +kernel
theorem dX9_tocks_20 : decode cX9_tocks 20 = .ok (.getfield 54, 3) := by decide +kernel
theorem dX9_tocks_23 : decode cX9_tocks 23 = .ok (.iconst 0, 1) := by decide +kernel
theorem dX9_tocks_24 : decode cX9_tocks 24 = .ok (.baload, 1) := by decide +kernel
theorem dX9_tocks_25 : decode cX9_tocks 25 = .ok (.ifCond .ne 6, 3) := by decide +kernel
theorem dX9_tocks_28 : decode cX9_tocks 28 = .ok (.bipush (-4), 2) := by decide +kernel
theorem dX9_tocks_30 : decode cX9_tocks 30 = .ok (.ireturn, 1) := by decide +kernel
theorem dX9_tocks_31 : decode cX9_tocks 31 = .ok (.aload_n 0, 1) := by decide +kernel
theorem dX9_tocks_32 : decode cX9_tocks 32 = .ok (.getfield 57, 3) := by decide +kernel
theorem dX9_tocks_35 : decode cX9_tocks 35 = .ok (.bipush 9, 2) := by decide +kernel
theorem dX9_tocks_37 : decode cX9_tocks 37 = .ok (.iaload, 1) := by decide +kernel
theorem dX9_tocks_38 : decode cX9_tocks 38 = .ok (.iload_n 1, 1) := by decide +kernel
theorem dX9_tocks_39 : decode cX9_tocks 39 = .ok (.iadd, 1) := by decide +kernel
theorem dX9_tocks_40 : decode cX9_tocks 40 = .ok (.sipush 10000, 3) := by decide +kernel
theorem dX9_tocks_43 : decode cX9_tocks 43 = .ok (.if_icmp .le 6, 3) := by decide +kernel
theorem dX9_tocks_46 : decode cX9_tocks 46 = .ok (.bipush (-6), 2) := by decide +kernel
theorem dX9_tocks_48 : decode cX9_tocks 48 = .ok (.ireturn, 1) := by decide +kernel
theorem dX9_tocks_49 : decode cX9_tocks 49 = .ok (.aload_n 0, 1) := by decide +kernel
theorem dX9_tocks_50 : decode cX9_tocks 50 = .ok (.invokevirtual 190, 3) := by decide +kernel
theorem dX9_tocks_53 : decode cX9_tocks 53 = .ok (.aload_n 0, 1) := by decide +kernel
theorem dX9_tocks_54 : decode cX9_tocks 54 = .ok (.getfield 13, 3) := by decide +kernel
theorem dX9_tocks_57 : decode cX9_tocks 57 = .ok (.iload_n 2, 1) := by decide +kernel
theorem dX9_tocks_58 : decode cX9_tocks 58 = .ok (.iload_n 1, 1) := by decide +kernel
theorem dX9_tocks_59 : decode cX9_tocks 59 = .ok (.iastore, 1) := by decide +kernel
theorem dX9_tocks_60 : decode cX9_tocks 60 = .ok (.iconst 0, 1) := by decide +kernel
theorem dX9_tocks_61 : decode cX9_tocks 61 = .ok (.istore_n 3, 1) := by decide +kernel
theorem dX9_tocks_62 : decode cX9_tocks 62 = .ok (.iconst 0, 1) := by decide +kernel
theorem dX9_tocks_63 : decode cX9_tocks 63 = .ok (.istore 4, 2) := by decide +kernel
theorem dX9_tocks_65 : decode cX9_tocks 65 = .ok (.iload 4, 2) := by decide +kernel
theorem dX9_tocks_67 : decode cX9_tocks 67 = .ok (.bipush 60, 2) := by decide +kernel
theorem dX9_tocks_69 : decode cX9_tocks 69 = .ok (.if_icmp .ge 67, 3) := by decide +kernel
theorem dX9_tocks_72 : decode cX9_tocks 72 = .ok (.iload 4, 2) := by decide +kernel
theorem dX9_tocks_74 : decode cX9_tocks 74 = .ok (.iload_n 1, 1) := by decide +kernel
theorem dX9_tocks_75 : decode cX9_tocks 75 = .ok (.if_icmp .ge 14, 3) := by decide +kernel
theorem dX9_tocks_78 : decode cX9_tocks 78 = .ok (.aload_n 0, 1) := by decide +kernel
theorem dX9_tocks_79 : decode cX9_tocks 79 = .ok (.invokevirtual 193, 3) := by decide +kernel
theorem dX9_tocks_82 : decode cX9_tocks 82 = .ok (.ifCond .eq 7, 3) := by decide +kernel
theorem dX9_tocks_85 : decode cX9_tocks 85 = .ok (.iconst 1, 1) := by decide +kernel
theorem dX9_tocks_86 : decode cX9_tocks 86 = .ok (.goto 4, 3) := by decide +kernel
theorem dX9_tocks_89 : decode cX9_tocks 89 = .ok (.iconst 0, 1) := by decide +kernel
theorem dX9_tocks_90 : decode cX9_tocks 90 = .ok (.istore 5, 2) := by decide +kernel
theorem dX9_tocks_92 : decode cX9_tocks 92 = .ok (.aload_n 0, 1) := by decide +kernel
theorem dX9_tocks_93 : decode cX9_tocks 93 = .ok (.getfield 16, 3) := by decide +kernel
theorem dX9_tocks_96 : decode cX9_tocks 96 = .ok (.bipush 60, 2) := by decide +kernel
theorem dX9_tocks_98 : decode cX9_tocks 98 = .ok (.iload_n 2, 1) := by decide +kernel
theorem dX9_tocks_99 : decode cX9_tocks 99 = .ok (.imul, 1) := by decide +kernel
theorem dX9_tocks_100 : decode cX9_tocks 100 = .ok (.iload 4, 2) := by decide +kernel
theorem dX9_tocks_102 : decode cX9_tocks 102 = .ok (.iadd, 1) := by decide +kernel
theorem dX9_tocks_103 : decode cX9_tocks 103 = .ok (.iload 5, 2) := by decide +kernel
theorem dX9_tocks_105 : decode cX9_tocks 105 = .ok (.ifCond .eq 10, 3) := by decide +kernel
theorem dX9_tocks_108 : decode cX9_tocks 108 = .ok (.aload_n 0, 1) := by decide +kernel
theorem dX9_tocks_109 : decode cX9_tocks 109 = .ok (.getfield 154, 3) := by decide +kernel
theorem dX9_tocks_112 : decode cX9_tocks 112 = .ok (.goto 4, 3) := by decide +kernel
theorem dX9_tocks_115 : decode cX9_tocks 115 = .ok (.iconst 0, 1) := by decide +kernel
theorem dX9_tocks_116 : decode cX9_tocks 116 = .ok (.iastore, 1) := by decide +kernel
theorem dX9_tocks_117 : decode cX9_tocks 117 = .ok (.iload_n 3, 1) := by decide +kernel
theorem dX9_tocks_118 : decode cX9_tocks 118 = .ok (.iload 5, 2) := by decide +kernel
theorem dX9_tocks_120 : decode cX9_tocks 120 = .ok (.ifCond .eq 7, 3) := by decide +kernel
theorem dX9_tocks_123 : decode cX9_tocks 123 = .ok (.iconst 1, 1) := by decide +kernel
theorem dX9_tocks_124 : decode cX9_tocks 124 = .ok (.goto 4, 3) := by decide +kernel
theorem dX9_tocks_127 : decode cX9_tocks 127 = .ok (.iconst 0, 1) := by decide +kernel
theorem dX9_tocks_128 : decode cX9_tocks 128 = .ok (.iadd, 1) := by decide +kernel
theorem dX9_tocks_129 : decode cX9_tocks 129 = .ok (.istore_n 3, 1) := by decide +kernel
theorem dX9_tocks_130 : decode cX9_tocks 130 = .ok (.iinc 4 1, 3) := by decide +kernel
theorem dX9_tocks_133 : decode cX9_tocks 133 = .ok (.goto (-68), 3) := by decide +kernel
theorem dX9_tocks_136 : decode cX9_tocks 136 = .ok (.aload_n 0, 1) := by decide +kernel
theorem dX9_tocks_137 : decode cX9_tocks 137 = .ok (.invokevirtual 187, 3) := by decide +kernel
theorem dX9_tocks_140 : decode cX9_tocks 140 = .ok (.iload_n 3, 1) := by decide +kernel
theorem dX9_tocks_141 : decode cX9_tocks 141 = .ok (.ireturn, 1) := by decide +kernel
theorem dX9_tilt_0 : decode cX9_tilt 0 = .ok (.iload_n 1, 1) := by decide +kernel
theorem dX9_tilt_1 : decode cX9_tilt 1 = .ok (.iconst 0, 1) := by decide +kernel
theorem dX9_tilt_2 : decode cX9_tilt 2 = .ok (.bipush 99, 2) := by decide +kernel
theorem dX9_tilt_4 : decode cX9_tilt 4 = .ok (.invokestatic 80, 3) := by decide +kernel
theorem dX9_tilt_7 : decode cX9_tilt 7 = .ok (.ifCond .ne 5, 3) := by decide +kernel
theorem dX9_tilt_10 : decode cX9_tilt 10 = .ok (.iconst (-1), 1) := by decide +kernel
theorem dX9_tilt_11 : decode cX9_tilt 11 = .ok (.ireturn, 1) := by decide +kernel
theorem dX9_tilt_12 : decode cX9_tilt 12 = .ok (.aload_n 0, 1) := by decide +kernel
theorem dX9_tilt_13 : decode cX9_tilt 13 = .ok (.getfield 54, 3) := by decide +kernel
theorem dX9_tilt_16 : decode cX9_tilt 16 = .ok (.iconst 0, 1) := by decide +kernel
theorem dX9_tilt_17 : decode cX9_tilt 17 = .ok (.baload, 1) := by decide +kernel
theorem dX9_tilt_18 : decode cX9_tilt 18 = .ok (.ifCond .ne 6, 3) := by decide +kernel
theorem dX9_tilt_21 : decode cX9_tilt 21 = .ok (.bipush (-4), 2) := by decide +kernel
theorem dX9_tilt_23 : decode cX9_tilt 23 = .ok (.ireturn, 1) := by decide +kernel
theorem dX9_tilt_24 : decode cX9_tilt 24 = .ok (.aload_n 0, 1) := by decide +kernel
theorem dX9_tilt_25 : decode cX9_tilt 25 = .ok (.getfield 57, 3) := by decide +kernel
theorem dX9_tilt_28 : decode cX9_tilt 28 = .ok (.bipush 6, 2) := by decide +kernel
theorem dX9_tilt_30 : decode cX9_tilt 30 = .ok (.iaload, 1) := by decide +kernel
theorem dX9_tilt_31 : decode cX9_tilt 31 = .ok (.istore_n 2, 1) := by decide +kernel
theorem dX9_tilt_32 : decode cX9_tilt 32 = .ok (.aload_n 0, 1) := by decide +kernel
theorem dX9_tilt_33 : decode cX9_tilt 33 = .ok (.getfield 57, 3) := by decide +kernel
theorem dX9_tilt_36 : decode cX9_tilt 36 = .ok (.bipush 6, 2) := by decide +kernel
theorem dX9_tilt_38 : decode cX9_tilt 38 = .ok (.iload_n 1, 1) := by decide +kernel
theorem dX9_tilt_39 : decode cX9_tilt 39 = .ok (.iastore, 1) := by decide +kernel
theorem dX9_tilt_40 : decode cX9_tilt 40 = .ok (.iload_n 2, 1) := by decide +kernel
theorem dX9_tilt_41 : decode cX9_tilt 41 = .ok (.ireturn, 1) := by decide +kernel
theorem dX9_keep_0 : decode cX9_keep 0 = .ok (.iload_n 1, 1) := by decide +kernel
theorem dX9_keep_1 : decode cX9_keep 1 = .ok (.iconst 0, 1) := by decide +kernel
theorem dX9_keep_2 : decode cX9_keep 2 = .ok (.iconst 2, 1) := by decide +kernel
theorem dX9_keep_3 : decode cX9_keep 3 = .ok (.invokestatic 80, 3) := by decide +kernel
theorem dX9_keep_6 : decode cX9_keep 6 = .ok (.ifCond .ne 5, 3) := by decide +kernel
theorem dX9_keep_9 : decode cX9_keep 9 = .ok (.iconst (-1), 1) := by decide +kernel
theorem dX9_keep_10 : decode cX9_keep 10 = .ok (.ireturn, 1) := by decide +kernel
theorem dX9_keep_11 : decode cX9_keep 11 = .ok (.aload_n 0, 1) := by decide +kernel
theorem dX9_keep_12 : decode cX9_keep 12 = .ok (.getfield 54, 3) := by decide +kernel
theorem dX9_keep_15 : decode cX9_keep 15 = .ok (.iconst 0, 1) := by decide +kernel
theorem dX9_keep_16 : decode cX9_keep 16 = .ok (.baload, 1) := by decide +kernel
theorem dX9_keep_17 : decode cX9_keep 17 = .ok (.ifCond .ne 6, 3) := by decide +kernel
theorem dX9_keep_20 : decode cX9_keep 20 = .ok (.bipush (-4), 2) := by decide +kernel
theorem dX9_keep_22 : decode cX9_keep 22 = .ok (.ireturn, 1) := by decide +kernel
theorem dX9_keep_23 : decode cX9_keep 23 = .ok (.aload_n 0, 1) := by decide +kernel
theorem dX9_keep_24 : decode cX9_keep 24 = .ok (.iconst 0, 1) := by decide +kernel
theorem dX9_keep_25 : decode cX9_keep 25 = .ok (.iconst 1, 1) := by decide +kernel
theorem dX9_keep_26 : decode cX9_keep 26 = .ok (.iload_n 1, 1) := by decide +kernel
theorem dX9_keep_27 : decode cX9_keep 27 = .ok (.iadd, 1) := by decide +kernel
theorem dX9_keep_28 : decode cX9_keep 28 = .ok (.invokevirtual 200, 3) := by decide +kernel
theorem dX9_keep_31 : decode cX9_keep 31 = .ok (.aload_n 0, 1) := by decide +kernel
theorem dX9_keep_32 : decode cX9_keep 32 = .ok (.getfield 54, 3) := by decide +kernel
theorem dX9_keep_35 : decode cX9_keep 35 = .ok (.iconst 1, 1) := by decide +kernel
theorem dX9_keep_36 : decode cX9_keep 36 = .ok (.iload_n 1, 1) := by decide +kernel
theorem dX9_keep_37 : decode cX9_keep 37 = .ok (.iadd, 1) := by decide +kernel
theorem dX9_keep_38 : decode cX9_keep 38 = .ok (.iconst 1, 1) := by decide +kernel
theorem dX9_keep_39 : decode cX9_keep 39 = .ok (.bastore, 1) := by decide +kernel
theorem dX9_keep_40 : decode cX9_keep 40 = .ok (.aload_n 0, 1) := by decide +kernel
theorem dX9_keep_41 : decode cX9_keep 41 = .ok (.getfield 57, 3) := by decide +kernel
theorem dX9_keep_44 : decode cX9_keep 44 = .ok (.bipush 9, 2) := by decide +kernel
theorem dX9_keep_46 : decode cX9_keep 46 = .ok (.iaload, 1) := by decide +kernel
theorem dX9_keep_47 : decode cX9_keep 47 = .ok (.ireturn, 1) := by decide +kernel
theorem dX9_on_0 : decode cX9_on 0 = .ok (.iload_n 1, 1) := by decide +kernel
theorem dX9_on_1 : decode cX9_on 1 = .ok (.iconst 0, 1) := by decide +kernel
theorem dX9_on_2 : decode cX9_on 2 = .ok (.iconst 2, 1) := by decide +kernel
theorem dX9_on_3 : decode cX9_on 3 = .ok (.invokestatic 80, 3) := by decide +kernel
theorem dX9_on_6 : decode cX9_on 6 = .ok (.ifCond .ne 5, 3) := by decide +kernel
theorem dX9_on_9 : decode cX9_on 9 = .ok (.iconst (-1), 1) := by decide +kernel
theorem dX9_on_10 : decode cX9_on 10 = .ok (.ireturn, 1) := by decide +kernel
theorem dX9_on_11 : decode cX9_on 11 = .ok (.aload_n 0, 1) := by decide +kernel
theorem dX9_on_12 : decode cX9_on 12 = .ok (.getfield 54, 3) := by decide +kernel
theorem dX9_on_15 : decode cX9_on 15 = .ok (.iconst 1, 1) := by decide +kernel
theorem dX9_on_16 : decode cX9_on 16 = .ok (.iload_n 1, 1) := by decide +kernel
theorem dX9_on_17 : decode cX9_on 17 = .ok (.iadd, 1) := by decide +kernel
theorem dX9_on_18 : decode cX9_on 18 = .ok (.baload, 1) := by decide +kernel
theorem dX9_on_19 : decode cX9_on 19 = .ok (.ifCond .ne 9, 3) := by decide +kernel
theorem dX9_on_22 : decode cX9_on 22 = .ok (.aload_n 0, 1) := by decide +kernel
theorem dX9_on_23 : decode cX9_on 23 = .ok (.iconst 1, 1) := by decide +kernel
theorem dX9_on_24 : decode cX9_on 24 = .ok (.invokevirtual 94, 3) := by decide +kernel
theorem dX9_on_27 : decode cX9_on 27 = .ok (.ireturn, 1) := by decide +kernel
theorem dX9_on_28 : decode cX9_on 28 = .ok (.aload_n 0, 1) := by decide +kernel
theorem dX9_on_29 : decode cX9_on 29 = .ok (.iconst 1, 1) := by decide +kernel
theorem dX9_on_30 : decode cX9_on 30 = .ok (.iload_n 1, 1) := by decide +kernel
theorem dX9_on_31 : decode cX9_on 31 = .ok (.iadd, 1) := by decide +kernel
theorem dX9_on_32 : decode cX9_on 32 = .ok (.iconst 0, 1) := by decide +kernel
theorem dX9_on_33 : decode cX9_on 33 = .ok (.invokevirtual 200, 3) := by decide +kernel
theorem dX9_on_36 : decode cX9_on 36 = .ok (.aload_n 0, 1) := by decide +kernel
theorem dX9_on_37 : decode cX9_on 37 = .ok (.getfield 54, 3) := by decide +kernel
theorem dX9_on_40 : decode cX9_on 40 = .ok (.iconst 0, 1) := by decide +kernel
theorem dX9_on_41 : decode cX9_on 41 = .ok (.iconst 1, 1) := by decide +kernel
theorem dX9_on_42 : decode cX9_on 42 = .ok (.bastore, 1) := by decide +kernel
theorem dX9_on_43 : decode cX9_on 43 = .ok (.aload_n 0, 1) := by decide +kernel
theorem dX9_on_44 : decode cX9_on 44 = .ok (.getfield 57, 3) := by decide +kernel
theorem dX9_on_47 : decode cX9_on 47 = .ok (.bipush 9, 2) := by decide +kernel
theorem dX9_on_49 : decode cX9_on 49 = .ok (.iaload, 1) := by decide +kernel
theorem dX9_on_50 : decode cX9_on 50 = .ok (.ireturn, 1) := by decide +kernel
theorem dX9_turns_0 : decode cX9_turns 0 = .ok (.aload_n 0, 1) := by decide +kernel
theorem dX9_turns_1 : decode cX9_turns 1 = .ok (.getfield 54, 3) := by decide +kernel
theorem dX9_turns_4 : decode cX9_turns 4 = .ok (.iconst 0, 1) := by decide +kernel
theorem dX9_turns_5 : decode cX9_turns 5 = .ok (.baload, 1) := by decide +kernel
theorem dX9_turns_6 : decode cX9_turns 6 = .ok (.ifCond .ne 6, 3) := by decide +kernel
theorem dX9_turns_9 : decode cX9_turns 9 = .ok (.bipush (-4), 2) := by decide +kernel
theorem dX9_turns_11 : decode cX9_turns 11 = .ok (.ireturn, 1) := by decide +kernel
theorem dX9_turns_12 : decode cX9_turns 12 = .ok (.aload_n 0, 1) := by decide +kernel
theorem dX9_turns_13 : decode cX9_turns 13 = .ok (.getfield 57, 3) := by decide +kernel
theorem dX9_turns_16 : decode cX9_turns 16 = .ok (.iconst 5, 1) := by decide +kernel
theorem dX9_turns_17 : decode cX9_turns 17 = .ok (.iaload, 1) := by decide +kernel
theorem dX9_turns_18 : decode cX9_turns 18 = .ok (.aload_n 0, 1) := by decide +kernel
theorem dX9_turns_19 : decode cX9_turns 19 = .ok (.getfield 57, 3) := by decide +kernel
theorem dX9_turns_22 : decode cX9_turns 22 = .ok (.iconst 4, 1) := by decide +kernel
theorem dX9_turns_23 : decode cX9_turns 23 = .ok (.iaload, 1) := by decide +kernel
theorem dX9_turns_24 : decode cX9_turns 24 = .ok (.isub, 1) := by decide +kernel
theorem dX9_turns_25 : decode cX9_turns 25 = .ok (.istore_n 1, 1) := by decide +kernel
theorem dX9_turns_26 : decode cX9_turns 26 = .ok (.aload_n 0, 1) := by decide +kernel
theorem dX9_turns_27 : decode cX9_turns 27 = .ok (.getfield 57, 3) := by decide +kernel
theorem dX9_turns_30 : decode cX9_turns 30 = .ok (.bipush 9, 2) := by decide +kernel
theorem dX9_turns_32 : decode cX9_turns 32 = .ok (.iaload, 1) := by decide +kernel
theorem dX9_turns_33 : decode cX9_turns 33 = .ok (.iload_n 1, 1) := by decide +kernel
theorem dX9_turns_34 : decode cX9_turns 34 = .ok (.imul, 1) := by decide +kernel
theorem dX9_turns_35 : decode cX9_turns 35 = .ok (.sipush 360, 3) := by decide +kernel
theorem dX9_turns_38 : decode cX9_turns 38 = .ok (.irem, 1) := by decide +kernel
theorem dX9_turns_39 : decode cX9_turns 39 = .ok (.istore_n 2, 1) := by decide +kernel
theorem dX9_turns_40 : decode cX9_turns 40 = .ok (.bipush (-9), 2) := by decide +kernel
theorem dX9_turns_42 : decode cX9_turns 42 = .ok (.istore_n 3, 1) := by decide +kernel
theorem dX9_turns_43 : decode cX9_turns 43 = .ok (.iload_n 1, 1) := by decide +kernel
theorem dX9_turns_44 : decode cX9_turns 44 = .ok (.ifCond .eq 21, 3) := by decide +kernel
theorem dX9_turns_47 : decode cX9_turns 47 = .ok (.iconst 1, 1) := by decide +kernel
theorem dX9_turns_48 : decode cX9_turns 48 = .ok (.istore_n 3, 1) := by decide +kernel
theorem dX9_turns_49 : decode cX9_turns 49 = .ok (.iload_n 3, 1) := by decide +kernel
theorem dX9_turns_50 : decode cX9_turns 50 = .ok (.iload_n 1, 1) := by decide +kernel
theorem dX9_turns_51 : decode cX9_turns 51 = .ok (.imul, 1) := by decide +kernel
theorem dX9_turns_52 : decode cX9_turns 52 = .ok (.sipush 360, 3) := by decide +kernel
theorem dX9_turns_55 : decode cX9_turns 55 = .ok (.irem, 1) := by decide +kernel
theorem dX9_turns_56 : decode cX9_turns 56 = .ok (.ifCond .eq 9, 3) := by decide +kernel
theorem dX9_turns_59 : decode cX9_turns 59 = .ok (.iinc 3 1, 3) := by decide +kernel
theorem dX9_turns_62 : decode cX9_turns 62 = .ok (.goto (-13), 3) := by decide +kernel
theorem dX9_turns_65 : decode cX9_turns 65 = .ok (.aload_n 0, 1) := by decide +kernel
theorem dX9_turns_66 : decode cX9_turns 66 = .ok (.iload_n 3, 1) := by decide +kernel
theorem dX9_turns_67 : decode cX9_turns 67 = .ok (.iload_n 2, 1) := by decide +kernel
theorem dX9_turns_68 : decode cX9_turns 68 = .ok (.ifCond .ge 11, 3) := by decide +kernel
theorem dX9_turns_71 : decode cX9_turns 71 = .ok (.iload_n 2, 1) := by decide +kernel
theorem dX9_turns_72 : decode cX9_turns 72 = .ok (.sipush 360, 3) := by decide +kernel
theorem dX9_turns_75 : decode cX9_turns 75 = .ok (.iadd, 1) := by decide +kernel
theorem dX9_turns_76 : decode cX9_turns 76 = .ok (.goto 4, 3) := by decide +kernel
theorem dX9_turns_79 : decode cX9_turns 79 = .ok (.iload_n 2, 1) := by decide +kernel
theorem dX9_turns_80 : decode cX9_turns 80 = .ok (.invokevirtual 102, 3) := by decide +kernel
theorem dX9_turns_83 : decode cX9_turns 83 = .ok (.ireturn, 1) := by decide +kernel
theorem dX9_goingOf_0 : decode cX9_goingOf 0 = .ok (.iconst 0, 1) := by decide +kernel
theorem dX9_goingOf_1 : decode cX9_goingOf 1 = .ok (.istore_n 2, 1) := by decide +kernel
theorem dX9_goingOf_2 : decode cX9_goingOf 2 = .ok (.iload_n 2, 1) := by decide +kernel
theorem dX9_goingOf_3 : decode cX9_goingOf 3 = .ok (.sipush 400, 3) := by decide +kernel
theorem dX9_goingOf_6 : decode cX9_goingOf 6 = .ok (.if_icmp .ge 17, 3) := by decide +kernel
theorem dX9_goingOf_9 : decode cX9_goingOf 9 = .ok (.aload_n 0, 1) := by decide +kernel
theorem dX9_goingOf_10 : decode cX9_goingOf 10 = .ok (.getfield 60, 3) := by decide +kernel
theorem dX9_goingOf_13 : decode cX9_goingOf 13 = .ok (.iload_n 2, 1) := by decide +kernel
theorem dX9_goingOf_14 : decode cX9_goingOf 14 = .ok (.bipush (-9), 2) := by decide +kernel
theorem dX9_goingOf_16 : decode cX9_goingOf 16 = .ok (.iastore, 1) := by decide +kernel
theorem dX9_goingOf_17 : decode cX9_goingOf 17 = .ok (.iinc 2 1, 3) := by decide +kernel
theorem dX9_goingOf_20 : decode cX9_goingOf 20 = .ok (.goto (-18), 3) := by decide +kernel
theorem dX9_goingOf_23 : decode cX9_goingOf 23 = .ok (.aload_n 0, 1) := by decide +kernel
theorem dX9_goingOf_24 : decode cX9_goingOf 24 = .ok (.iload_n 1, 1) := by decide +kernel
theorem dX9_goingOf_25 : decode cX9_goingOf 25 = .ok (.iconst 0, 1) := by decide +kernel
theorem dX9_goingOf_26 : decode cX9_goingOf 26 = .ok (.invokevirtual 183, 3) := by decide +kernel
theorem dX9_goingOf_29 : decode cX9_goingOf 29 = .ok (.aload_n 0, 1) := by decide +kernel
theorem dX9_goingOf_30 : decode cX9_goingOf 30 = .ok (.getfield 63, 3) := by decide +kernel
theorem dX9_goingOf_33 : decode cX9_goingOf 33 = .ok (.iconst 0, 1) := by decide +kernel
theorem dX9_goingOf_34 : decode cX9_goingOf 34 = .ok (.iload_n 1, 1) := by decide +kernel
theorem dX9_goingOf_35 : decode cX9_goingOf 35 = .ok (.iastore, 1) := by decide +kernel
theorem dX9_goingOf_36 : decode cX9_goingOf 36 = .ok (.iconst 0, 1) := by decide +kernel
theorem dX9_goingOf_37 : decode cX9_goingOf 37 = .ok (.istore_n 2, 1) := by decide +kernel
theorem dX9_goingOf_38 : decode cX9_goingOf 38 = .ok (.aload_n 0, 1) := by decide +kernel
theorem dX9_goingOf_39 : decode cX9_goingOf 39 = .ok (.iconst 0, 1) := by decide +kernel
theorem dX9_goingOf_40 : decode cX9_goingOf 40 = .ok (.putfield 203, 3) := by decide +kernel
theorem dX9_goingOf_43 : decode cX9_goingOf 43 = .ok (.aload_n 0, 1) := by decide +kernel
theorem dX9_goingOf_44 : decode cX9_goingOf 44 = .ok (.getfield 160, 3) := by decide +kernel
theorem dX9_goingOf_47 : decode cX9_goingOf 47 = .ok (.ifCond .ne 69, 3) := by decide +kernel
theorem dX9_goingOf_50 : decode cX9_goingOf 50 = .ok (.aload_n 0, 1) := by decide +kernel
theorem dX9_goingOf_51 : decode cX9_goingOf 51 = .ok (.getfield 60, 3) := by decide +kernel
theorem dX9_goingOf_54 : decode cX9_goingOf 54 = .ok (.iconst 2, 1) := by decide +kernel
theorem dX9_goingOf_55 : decode cX9_goingOf 55 = .ok (.aload_n 0, 1) := by decide +kernel
theorem dX9_goingOf_56 : decode cX9_goingOf 56 = .ok (.getfield 154, 3) := by decide +kernel
theorem dX9_goingOf_59 : decode cX9_goingOf 59 = .ok (.imul, 1) := by decide +kernel
theorem dX9_goingOf_60 : decode cX9_goingOf 60 = .ok (.aload_n 0, 1) := by decide +kernel
theorem dX9_goingOf_61 : decode cX9_goingOf 61 = .ok (.getfield 157, 3) := by decide +kernel
theorem dX9_goingOf_64 : decode cX9_goingOf 64 = .ok (.iadd, 1) := by decide +kernel
theorem dX9_goingOf_65 : decode cX9_goingOf 65 = .ok (.iaload, 1) := by decide +kernel
theorem dX9_goingOf_66 : decode cX9_goingOf 66 = .ok (.bipush (-9), 2) := by decide +kernel
theorem dX9_goingOf_68 : decode cX9_goingOf 68 = .ok (.if_icmp .ne 48, 3) := by decide +kernel
theorem dX9_goingOf_71 : decode cX9_goingOf 71 = .ok (.iload_n 2, 1) := by decide +kernel
theorem dX9_goingOf_72 : decode cX9_goingOf 72 = .ok (.sipush 400, 3) := by decide +kernel
theorem dX9_goingOf_75 : decode cX9_goingOf 75 = .ok (.if_icmp .ge 41, 3) := by decide +kernel
theorem dX9_goingOf_78 : decode cX9_goingOf 78 = .ok (.aload_n 0, 1) := by decide +kernel
theorem dX9_goingOf_79 : decode cX9_goingOf 79 = .ok (.getfield 60, 3) := by decide +kernel
theorem dX9_goingOf_82 : decode cX9_goingOf 82 = .ok (.iconst 2, 1) := by decide +kernel
theorem dX9_goingOf_83 : decode cX9_goingOf 83 = .ok (.aload_n 0, 1) := by decide +kernel
theorem dX9_goingOf_84 : decode cX9_goingOf 84 = .ok (.getfield 154, 3) := by decide +kernel
theorem dX9_goingOf_87 : decode cX9_goingOf 87 = .ok (.imul, 1) := by decide +kernel
theorem dX9_goingOf_88 : decode cX9_goingOf 88 = .ok (.aload_n 0, 1) := by decide +kernel
theorem dX9_goingOf_89 : decode cX9_goingOf 89 = .ok (.getfield 157, 3) := by decide +kernel
theorem dX9_goingOf_92 : decode cX9_goingOf 92 = .ok (.iadd, 1) := by decide +kernel
theorem dX9_goingOf_93 : decode cX9_goingOf 93 = .ok (.iload_n 2, 1) := by decide +kernel
theorem dX9_goingOf_94 : decode cX9_goingOf 94 = .ok (.iastore, 1) := by decide +kernel
theorem dX9_goingOf_95 : decode cX9_goingOf 95 = .ok (.aload_n 0, 1) := by decide +kernel
theorem dX9_goingOf_96 : decode cX9_goingOf 96 = .ok (.iload_n 2, 1) := by decide +kernel
theorem dX9_goingOf_97 : decode cX9_goingOf 97 = .ok (.invokevirtual 206, 3) := by decide +kernel
theorem dX9_goingOf_100 : decode cX9_goingOf 100 = .ok (.iinc 2 1, 3) := by decide +kernel
theorem dX9_goingOf_103 : decode cX9_goingOf 103 = .ok (.aload_n 0, 1) := by decide +kernel
theorem dX9_goingOf_104 : decode cX9_goingOf 104 = .ok (.getfield 63, 3) := by decide +kernel
theorem dX9_goingOf_107 : decode cX9_goingOf 107 = .ok (.iload_n 2, 1) := by decide +kernel
theorem dX9_goingOf_108 : decode cX9_goingOf 108 = .ok (.aload_n 0, 1) := by decide +kernel
theorem dX9_goingOf_109 : decode cX9_goingOf 109 = .ok (.getfield 154, 3) := by decide +kernel
theorem dX9_goingOf_112 : decode cX9_goingOf 112 = .ok (.iastore, 1) := by decide +kernel
theorem dX9_goingOf_113 : decode cX9_goingOf 113 = .ok (.goto (-70), 3) := by decide +kernel
theorem dX9_goingOf_116 : decode cX9_goingOf 116 = .ok (.aload_n 0, 1) := by decide +kernel
theorem dX9_goingOf_117 : decode cX9_goingOf 117 = .ok (.iload_n 2, 1) := by decide +kernel
theorem dX9_goingOf_118 : decode cX9_goingOf 118 = .ok (.putfield 209, 3) := by decide +kernel
theorem dX9_goingOf_121 : decode cX9_goingOf 121 = .ok (.aload_n 0, 1) := by decide +kernel
theorem dX9_goingOf_122 : decode cX9_goingOf 122 = .ok (.getfield 160, 3) := by decide +kernel
theorem dX9_goingOf_125 : decode cX9_goingOf 125 = .ok (.ifCond .eq 17, 3) := by decide +kernel
theorem dX9_goingOf_128 : decode cX9_goingOf 128 = .ok (.aload_n 0, 1) := by decide +kernel
theorem dX9_goingOf_129 : decode cX9_goingOf 129 = .ok (.getfield 160, 3) := by decide +kernel
theorem dX9_goingOf_132 : decode cX9_goingOf 132 = .ok (.iconst 1, 1) := by decide +kernel
theorem dX9_goingOf_133 : decode cX9_goingOf 133 = .ok (.if_icmp .ne 7, 3) := by decide +kernel
theorem dX9_goingOf_136 : decode cX9_goingOf 136 = .ok (.iconst 4, 1) := by decide +kernel
theorem dX9_goingOf_137 : decode cX9_goingOf 137 = .ok (.goto 4, 3) := by decide +kernel
theorem dX9_goingOf_140 : decode cX9_goingOf 140 = .ok (.iconst 5, 1) := by decide +kernel
theorem dX9_goingOf_141 : decode cX9_goingOf 141 = .ok (.ireturn, 1) := by decide +kernel
theorem dX9_goingOf_142 : decode cX9_goingOf 142 = .ok (.aload_n 0, 1) := by decide +kernel
theorem dX9_goingOf_143 : decode cX9_goingOf 143 = .ok (.getfield 60, 3) := by decide +kernel
theorem dX9_goingOf_146 : decode cX9_goingOf 146 = .ok (.iconst 2, 1) := by decide +kernel
theorem dX9_goingOf_147 : decode cX9_goingOf 147 = .ok (.aload_n 0, 1) := by decide +kernel
theorem dX9_goingOf_148 : decode cX9_goingOf 148 = .ok (.getfield 154, 3) := by decide +kernel
theorem dX9_goingOf_151 : decode cX9_goingOf 151 = .ok (.imul, 1) := by decide +kernel
theorem dX9_goingOf_152 : decode cX9_goingOf 152 = .ok (.aload_n 0, 1) := by decide +kernel
theorem dX9_goingOf_153 : decode cX9_goingOf 153 = .ok (.getfield 157, 3) := by decide +kernel
theorem dX9_goingOf_156 : decode cX9_goingOf 156 = .ok (.iadd, 1) := by decide +kernel
theorem dX9_goingOf_157 : decode cX9_goingOf 157 = .ok (.iaload, 1) := by decide +kernel
theorem dX9_goingOf_158 : decode cX9_goingOf 158 = .ok (.bipush (-9), 2) := by decide +kernel
theorem dX9_goingOf_160 : decode cX9_goingOf 160 = .ok (.if_icmp .ne 5, 3) := by decide +kernel
theorem dX9_goingOf_163 : decode cX9_goingOf 163 = .ok (.iconst 3, 1) := by decide +kernel
theorem dX9_goingOf_164 : decode cX9_goingOf 164 = .ok (.ireturn, 1) := by decide +kernel
theorem dX9_goingOf_165 : decode cX9_goingOf 165 = .ok (.aload_n 0, 1) := by decide +kernel
theorem dX9_goingOf_166 : decode cX9_goingOf 166 = .ok (.iload_n 2, 1) := by decide +kernel
theorem dX9_goingOf_167 : decode cX9_goingOf 167 = .ok (.aload_n 0, 1) := by decide +kernel
theorem dX9_goingOf_168 : decode cX9_goingOf 168 = .ok (.getfield 60, 3) := by decide +kernel
theorem dX9_goingOf_171 : decode cX9_goingOf 171 = .ok (.iconst 2, 1) := by decide +kernel
theorem dX9_goingOf_172 : decode cX9_goingOf 172 = .ok (.aload_n 0, 1) := by decide +kernel
theorem dX9_goingOf_173 : decode cX9_goingOf 173 = .ok (.getfield 154, 3) := by decide +kernel
theorem dX9_goingOf_176 : decode cX9_goingOf 176 = .ok (.imul, 1) := by decide +kernel
theorem dX9_goingOf_177 : decode cX9_goingOf 177 = .ok (.aload_n 0, 1) := by decide +kernel
theorem dX9_goingOf_178 : decode cX9_goingOf 178 = .ok (.getfield 157, 3) := by decide +kernel
theorem dX9_goingOf_181 : decode cX9_goingOf 181 = .ok (.iadd, 1) := by decide +kernel
theorem dX9_goingOf_182 : decode cX9_goingOf 182 = .ok (.iaload, 1) := by decide +kernel
theorem dX9_goingOf_183 : decode cX9_goingOf 183 = .ok (.isub, 1) := by decide +kernel
theorem dX9_goingOf_184 : decode cX9_goingOf 184 = .ok (.putfield 203, 3) := by decide +kernel
theorem dX9_goingOf_187 : decode cX9_goingOf 187 = .ok (.aload_n 0, 1) := by decide +kernel
theorem dX9_goingOf_188 : decode cX9_goingOf 188 = .ok (.aload_n 0, 1) := by decide +kernel
theorem dX9_goingOf_189 : decode cX9_goingOf 189 = .ok (.getfield 154, 3) := by decide +kernel
theorem dX9_goingOf_192 : decode cX9_goingOf 192 = .ok (.putfield 212, 3) := by decide +kernel
theorem dX9_goingOf_195 : decode cX9_goingOf 195 = .ok (.aload_n 0, 1) := by decide +kernel
theorem dX9_goingOf_196 : decode cX9_goingOf 196 = .ok (.aload_n 0, 1) := by decide +kernel
theorem dX9_goingOf_197 : decode cX9_goingOf 197 = .ok (.getfield 154, 3) := by decide +kernel
theorem dX9_goingOf_200 : decode cX9_goingOf 200 = .ok (.putfield 215, 3) := by decide +kernel
theorem dX9_goingOf_203 : decode cX9_goingOf 203 = .ok (.iload_n 2, 1) := by decide +kernel
theorem dX9_goingOf_204 : decode cX9_goingOf 204 = .ok (.aload_n 0, 1) := by decide +kernel
theorem dX9_goingOf_205 : decode cX9_goingOf 205 = .ok (.getfield 203, 3) := by decide +kernel
theorem dX9_goingOf_208 : decode cX9_goingOf 208 = .ok (.isub, 1) := by decide +kernel
theorem dX9_goingOf_209 : decode cX9_goingOf 209 = .ok (.istore_n 3, 1) := by decide +kernel
theorem dX9_goingOf_210 : decode cX9_goingOf 210 = .ok (.iload_n 3, 1) := by decide +kernel
theorem dX9_goingOf_211 : decode cX9_goingOf 211 = .ok (.iload_n 2, 1) := by decide +kernel
theorem dX9_goingOf_212 : decode cX9_goingOf 212 = .ok (.if_icmp .ge 43, 3) := by decide +kernel
theorem dX9_goingOf_215 : decode cX9_goingOf 215 = .ok (.aload_n 0, 1) := by decide +kernel
theorem dX9_goingOf_216 : decode cX9_goingOf 216 = .ok (.aload_n 0, 1) := by decide +kernel
theorem dX9_goingOf_217 : decode cX9_goingOf 217 = .ok (.getfield 212, 3) := by decide +kernel
theorem dX9_goingOf_220 : decode cX9_goingOf 220 = .ok (.aload_n 0, 1) := by decide +kernel
theorem dX9_goingOf_221 : decode cX9_goingOf 221 = .ok (.getfield 63, 3) := by decide +kernel
theorem dX9_goingOf_224 : decode cX9_goingOf 224 = .ok (.iload_n 3, 1) := by decide +kernel
theorem dX9_goingOf_225 : decode cX9_goingOf 225 = .ok (.iaload, 1) := by decide +kernel
theorem dX9_goingOf_226 : decode cX9_goingOf 226 = .ok (.invokestatic 218, 3) := by decide +kernel
theorem dX9_goingOf_229 : decode cX9_goingOf 229 = .ok (.putfield 212, 3) := by decide +kernel
theorem dX9_goingOf_232 : decode cX9_goingOf 232 = .ok (.aload_n 0, 1) := by decide +kernel
theorem dX9_goingOf_233 : decode cX9_goingOf 233 = .ok (.aload_n 0, 1) := by decide +kernel
theorem dX9_goingOf_234 : decode cX9_goingOf 234 = .ok (.getfield 215, 3) := by decide +kernel
theorem dX9_goingOf_237 : decode cX9_goingOf 237 = .ok (.aload_n 0, 1) := by decide +kernel
theorem dX9_goingOf_238 : decode cX9_goingOf 238 = .ok (.getfield 63, 3) := by decide +kernel
theorem dX9_goingOf_241 : decode cX9_goingOf 241 = .ok (.iload_n 3, 1) := by decide +kernel
theorem dX9_goingOf_242 : decode cX9_goingOf 242 = .ok (.iaload, 1) := by decide +kernel
theorem dX9_goingOf_243 : decode cX9_goingOf 243 = .ok (.invokestatic 221, 3) := by decide +kernel
theorem dX9_goingOf_246 : decode cX9_goingOf 246 = .ok (.putfield 215, 3) := by decide +kernel
theorem dX9_goingOf_249 : decode cX9_goingOf 249 = .ok (.iinc 3 1, 3) := by decide +kernel
theorem dX9_goingOf_252 : decode cX9_goingOf 252 = .ok (.goto (-42), 3) := by decide +kernel
theorem dX9_goingOf_255 : decode cX9_goingOf 255 = .ok (.aload_n 0, 1) := by decide +kernel
theorem dX9_goingOf_256 : decode cX9_goingOf 256 = .ok (.getfield 212, 3) := by decide +kernel
theorem dX9_goingOf_259 : decode cX9_goingOf 259 = .ok (.aload_n 0, 1) := by decide +kernel
theorem dX9_goingOf_260 : decode cX9_goingOf 260 = .ok (.getfield 215, 3) := by decide +kernel
theorem dX9_goingOf_263 : decode cX9_goingOf 263 = .ok (.if_icmp .ne 23, 3) := by decide +kernel
theorem dX9_goingOf_266 : decode cX9_goingOf 266 = .ok (.aload_n 0, 1) := by decide +kernel
theorem dX9_goingOf_267 : decode cX9_goingOf 267 = .ok (.getfield 212, 3) := by decide +kernel
theorem dX9_goingOf_270 : decode cX9_goingOf 270 = .ok (.aload_n 0, 1) := by decide +kernel
theorem dX9_goingOf_271 : decode cX9_goingOf 271 = .ok (.invokevirtual 173, 3) := by decide +kernel
theorem dX9_goingOf_274 : decode cX9_goingOf 274 = .ok (.iconst 2, 1) := by decide +kernel
theorem dX9_goingOf_275 : decode cX9_goingOf 275 = .ok (.idiv, 1) := by decide +kernel
theorem dX9_goingOf_276 : decode cX9_goingOf 276 = .ok (.if_icmp .le 8, 3) := by decide +kernel
theorem dX9_goingOf_279 : decode cX9_goingOf 279 = .ok (.bipush 6, 2) := by decide +kernel
theorem dX9_goingOf_281 : decode cX9_goingOf 281 = .ok (.goto 4, 3) := by decide +kernel
theorem dX9_goingOf_284 : decode cX9_goingOf 284 = .ok (.iconst 1, 1) := by decide +kernel
theorem dX9_goingOf_285 : decode cX9_goingOf 285 = .ok (.ireturn, 1) := by decide +kernel
theorem dX9_goingOf_286 : decode cX9_goingOf 286 = .ok (.aload_n 0, 1) := by decide +kernel
theorem dX9_goingOf_287 : decode cX9_goingOf 287 = .ok (.getfield 203, 3) := by decide +kernel
theorem dX9_goingOf_290 : decode cX9_goingOf 290 = .ok (.iconst 4, 1) := by decide +kernel
theorem dX9_goingOf_291 : decode cX9_goingOf 291 = .ok (.if_icmp .ne 8, 3) := by decide +kernel
theorem dX9_goingOf_294 : decode cX9_goingOf 294 = .ok (.bipush 7, 2) := by decide +kernel
theorem dX9_goingOf_296 : decode cX9_goingOf 296 = .ok (.goto 16, 3) := by decide +kernel
theorem dX9_goingOf_299 : decode cX9_goingOf 299 = .ok (.aload_n 0, 1) := by decide +kernel
theorem dX9_goingOf_300 : decode cX9_goingOf 300 = .ok (.getfield 203, 3) := by decide +kernel
theorem dX9_goingOf_303 : decode cX9_goingOf 303 = .ok (.iconst 4, 1) := by decide +kernel
theorem dX9_goingOf_304 : decode cX9_goingOf 304 = .ok (.if_icmp .ge 7, 3) := by decide +kernel
theorem dX9_goingOf_307 : decode cX9_goingOf 307 = .ok (.iconst 2, 1) := by decide +kernel
theorem dX9_goingOf_308 : decode cX9_goingOf 308 = .ok (.goto 4, 3) := by decide +kernel
theorem dX9_goingOf_311 : decode cX9_goingOf 311 = .ok (.iconst 3, 1) := by decide +kernel
theorem dX9_goingOf_312 : decode cX9_goingOf 312 = .ok (.ireturn, 1) := by decide +kernel
theorem dX9_isOf_0 : decode cX9_isOf 0 = .ok (.iload_n 1, 1) := by decide +kernel
theorem dX9_isOf_1 : decode cX9_isOf 1 = .ok (.ifCond .eq 30, 3) := by decide +kernel
theorem dX9_isOf_4 : decode cX9_isOf 4 = .ok (.iload_n 0, 1) := by decide +kernel
theorem dX9_isOf_5 : decode cX9_isOf 5 = .ok (.iload_n 1, 1) := by decide +kernel
theorem dX9_isOf_6 : decode cX9_isOf 6 = .ok (.if_icmp .eq 25, 3) := by decide +kernel
theorem dX9_isOf_9 : decode cX9_isOf 9 = .ok (.iload_n 1, 1) := by decide +kernel
theorem dX9_isOf_10 : decode cX9_isOf 10 = .ok (.iconst 1, 1) := by decide +kernel
theorem dX9_isOf_11 : decode cX9_isOf 11 = .ok (.if_icmp .ne 9, 3) := by decide +kernel
theorem dX9_isOf_14 : decode cX9_isOf 14 = .ok (.iload_n 0, 1) := by decide +kernel
theorem dX9_isOf_15 : decode cX9_isOf 15 = .ok (.bipush 6, 2) := by decide +kernel
theorem dX9_isOf_17 : decode cX9_isOf 17 = .ok (.if_icmp .eq 14, 3) := by decide +kernel
theorem dX9_isOf_20 : decode cX9_isOf 20 = .ok (.iload_n 1, 1) := by decide +kernel
theorem dX9_isOf_21 : decode cX9_isOf 21 = .ok (.iconst 2, 1) := by decide +kernel
theorem dX9_isOf_22 : decode cX9_isOf 22 = .ok (.if_icmp .ne 13, 3) := by decide +kernel
theorem dX9_isOf_25 : decode cX9_isOf 25 = .ok (.iload_n 0, 1) := by decide +kernel
theorem dX9_isOf_26 : decode cX9_isOf 26 = .ok (.bipush 7, 2) := by decide +kernel
theorem dX9_isOf_28 : decode cX9_isOf 28 = .ok (.if_icmp .ne 7, 3) := by decide +kernel
theorem dX9_isOf_31 : decode cX9_isOf 31 = .ok (.iconst 1, 1) := by decide +kernel
theorem dX9_isOf_32 : decode cX9_isOf 32 = .ok (.goto 4, 3) := by decide +kernel
theorem dX9_isOf_35 : decode cX9_isOf 35 = .ok (.iconst 0, 1) := by decide +kernel
theorem dX9_isOf_36 : decode cX9_isOf 36 = .ok (.ireturn, 1) := by decide +kernel
theorem dX9_walksWell_0 : decode cX9_walksWell 0 = .ok (.aload_n 0, 1) := by decide +kernel
theorem dX9_walksWell_1 : decode cX9_walksWell 1 = .ok (.iload_n 1, 1) := by decide +kernel
theorem dX9_walksWell_2 : decode cX9_walksWell 2 = .ok (.invokevirtual 224, 3) := by decide +kernel
theorem dX9_walksWell_5 : decode cX9_walksWell 5 = .ok (.iconst 1, 1) := by decide +kernel
theorem dX9_walksWell_6 : decode cX9_walksWell 6 = .ok (.invokestatic 227, 3) := by decide +kernel
theorem dX9_walksWell_9 : decode cX9_walksWell 9 = .ok (.ireturn, 1) := by decide +kernel
theorem dX9_areGood_0 : decode cX9_areGood 0 = .ok (.iload_n 1, 1) := by decide +kernel
theorem dX9_areGood_1 : decode cX9_areGood 1 = .ok (.invokestatic 139, 3) := by decide +kernel
theorem dX9_areGood_4 : decode cX9_areGood 4 = .ok (.ifCond .eq 35, 3) := by decide +kernel
theorem dX9_areGood_7 : decode cX9_areGood 7 = .ok (.iload_n 2, 1) := by decide +kernel
theorem dX9_areGood_8 : decode cX9_areGood 8 = .ok (.invokestatic 139, 3) := by decide +kernel
theorem dX9_areGood_11 : decode cX9_areGood 11 = .ok (.ifCond .eq 28, 3) := by decide +kernel
theorem dX9_areGood_14 : decode cX9_areGood 14 = .ok (.iload_n 3, 1) := by decide +kernel
theorem dX9_areGood_15 : decode cX9_areGood 15 = .ok (.iconst 0, 1) := by decide +kernel
theorem dX9_areGood_16 : decode cX9_areGood 16 = .ok (.bipush 99, 2) := by decide +kernel
theorem dX9_areGood_18 : decode cX9_areGood 18 = .ok (.invokestatic 80, 3) := by decide +kernel
theorem dX9_areGood_21 : decode cX9_areGood 21 = .ok (.ifCond .eq 18, 3) := by decide +kernel
theorem dX9_areGood_24 : decode cX9_areGood 24 = .ok (.iload 4, 2) := by decide +kernel
theorem dX9_areGood_26 : decode cX9_areGood 26 = .ok (.iconst 0, 1) := by decide +kernel
theorem dX9_areGood_27 : decode cX9_areGood 27 = .ok (.bipush 99, 2) := by decide +kernel
theorem dX9_areGood_29 : decode cX9_areGood 29 = .ok (.invokestatic 80, 3) := by decide +kernel
theorem dX9_areGood_32 : decode cX9_areGood 32 = .ok (.ifCond .eq 7, 3) := by decide +kernel
theorem dX9_areGood_35 : decode cX9_areGood 35 = .ok (.iconst 1, 1) := by decide +kernel
theorem dX9_areGood_36 : decode cX9_areGood 36 = .ok (.goto 4, 3) := by decide +kernel
theorem dX9_areGood_39 : decode cX9_areGood 39 = .ok (.iconst 0, 1) := by decide +kernel
theorem dX9_areGood_40 : decode cX9_areGood 40 = .ok (.ireturn, 1) := by decide +kernel
theorem dX9_need_0 : decode cX9_need 0 = .ok (.iload_n 1, 1) := by decide +kernel
theorem dX9_need_1 : decode cX9_need 1 = .ok (.ifCond .eq 16, 3) := by decide +kernel
theorem dX9_need_4 : decode cX9_need 4 = .ok (.aload_n 0, 1) := by decide +kernel
theorem dX9_need_5 : decode cX9_need 5 = .ok (.iload_n 2, 1) := by decide +kernel
theorem dX9_need_6 : decode cX9_need 6 = .ok (.iload_n 3, 1) := by decide +kernel
theorem dX9_need_7 : decode cX9_need 7 = .ok (.iload 4, 2) := by decide +kernel
theorem dX9_need_9 : decode cX9_need 9 = .ok (.iload 5, 2) := by decide +kernel
theorem dX9_need_11 : decode cX9_need 11 = .ok (.invokevirtual 230, 3) := by decide +kernel
theorem dX9_need_14 : decode cX9_need 14 = .ok (.ifCond .ne 5, 3) := by decide +kernel
theorem dX9_need_17 : decode cX9_need 17 = .ok (.iconst (-1), 1) := by decide +kernel
theorem dX9_need_18 : decode cX9_need 18 = .ok (.ireturn, 1) := by decide +kernel
theorem dX9_need_19 : decode cX9_need 19 = .ok (.aload_n 0, 1) := by decide +kernel
theorem dX9_need_20 : decode cX9_need 20 = .ok (.getfield 29, 3) := by decide +kernel
theorem dX9_need_23 : decode cX9_need 23 = .ok (.iload_n 2, 1) := by decide +kernel
theorem dX9_need_24 : decode cX9_need 24 = .ok (.baload, 1) := by decide +kernel
theorem dX9_need_25 : decode cX9_need 25 = .ok (.ifCond .eq 12, 3) := by decide +kernel
theorem dX9_need_28 : decode cX9_need 28 = .ok (.aload_n 0, 1) := by decide +kernel
theorem dX9_need_29 : decode cX9_need 29 = .ok (.getfield 36, 3) := by decide +kernel
theorem dX9_need_32 : decode cX9_need 32 = .ok (.iload_n 3, 1) := by decide +kernel
theorem dX9_need_33 : decode cX9_need 33 = .ok (.baload, 1) := by decide +kernel
theorem dX9_need_34 : decode cX9_need 34 = .ok (.ifCond .ne 9, 3) := by decide +kernel
theorem dX9_need_37 : decode cX9_need 37 = .ok (.aload_n 0, 1) := by decide +kernel
theorem dX9_need_38 : decode cX9_need 38 = .ok (.iconst 1, 1) := by decide +kernel
theorem dX9_need_39 : decode cX9_need 39 = .ok (.invokevirtual 94, 3) := by decide +kernel
theorem dX9_need_42 : decode cX9_need 42 = .ok (.ireturn, 1) := by decide +kernel
theorem dX9_need_43 : decode cX9_need 43 = .ok (.aload_n 0, 1) := by decide +kernel
theorem dX9_need_44 : decode cX9_need 44 = .ok (.iload_n 2, 1) := by decide +kernel
theorem dX9_need_45 : decode cX9_need 45 = .ok (.iload_n 3, 1) := by decide +kernel
theorem dX9_need_46 : decode cX9_need 46 = .ok (.iload 4, 2) := by decide +kernel
theorem dX9_need_48 : decode cX9_need 48 = .ok (.invokevirtual 234, 3) := by decide +kernel
theorem dX9_need_51 : decode cX9_need 51 = .ok (.iconst 0, 1) := by decide +kernel
theorem dX9_need_52 : decode cX9_need 52 = .ok (.ireturn, 1) := by decide +kernel
theorem dX9_going_0 : decode cX9_going 0 = .ok (.aload_n 0, 1) := by decide +kernel
theorem dX9_going_1 : decode cX9_going 1 = .ok (.iconst 1, 1) := by decide +kernel
theorem dX9_going_2 : decode cX9_going 2 = .ok (.iload_n 1, 1) := by decide +kernel
theorem dX9_going_3 : decode cX9_going 3 = .ok (.iload_n 2, 1) := by decide +kernel
theorem dX9_going_4 : decode cX9_going 4 = .ok (.iload_n 3, 1) := by decide +kernel
theorem dX9_going_5 : decode cX9_going 5 = .ok (.iload 4, 2) := by decide +kernel
theorem dX9_going_7 : decode cX9_going 7 = .ok (.invokevirtual 238, 3) := by decide +kernel
theorem dX9_going_10 : decode cX9_going 10 = .ok (.istore 5, 2) := by decide +kernel
theorem dX9_going_12 : decode cX9_going 12 = .ok (.iload 5, 2) := by decide +kernel
theorem dX9_going_14 : decode cX9_going 14 = .ok (.ifCond .ge 6, 3) := by decide +kernel
theorem dX9_going_17 : decode cX9_going 17 = .ok (.iload 5, 2) := by decide +kernel
theorem dX9_going_19 : decode cX9_going 19 = .ok (.ireturn, 1) := by decide +kernel
theorem dX9_going_20 : decode cX9_going 20 = .ok (.aload_n 0, 1) := by decide +kernel
theorem dX9_going_21 : decode cX9_going 21 = .ok (.iload 4, 2) := by decide +kernel
theorem dX9_going_23 : decode cX9_going 23 = .ok (.invokevirtual 224, 3) := by decide +kernel
theorem dX9_going_26 : decode cX9_going 26 = .ok (.istore 6, 2) := by decide +kernel
theorem dX9_going_28 : decode cX9_going 28 = .ok (.aload_n 0, 1) := by decide +kernel
theorem dX9_going_29 : decode cX9_going 29 = .ok (.aload_n 0, 1) := by decide +kernel
theorem dX9_going_30 : decode cX9_going 30 = .ok (.getfield 203, 3) := by decide +kernel
theorem dX9_going_33 : decode cX9_going 33 = .ok (.iload 6, 2) := by decide +kernel
theorem dX9_going_35 : decode cX9_going 35 = .ok (.invokevirtual 102, 3) := by decide +kernel
theorem dX9_going_38 : decode cX9_going 38 = .ok (.ireturn, 1) := by decide +kernel
theorem dX9_unlikePaces_0 : decode cX9_unlikePaces 0 = .ok (.iconst 0, 1) := by decide +kernel
theorem dX9_unlikePaces_1 : decode cX9_unlikePaces 1 = .ok (.istore_n 2, 1) := by decide +kernel
theorem dX9_unlikePaces_2 : decode cX9_unlikePaces 2 = .ok (.iload_n 2, 1) := by decide +kernel
theorem dX9_unlikePaces_3 : decode cX9_unlikePaces 3 = .ok (.sipush 400, 3) := by decide +kernel
theorem dX9_unlikePaces_6 : decode cX9_unlikePaces 6 = .ok (.if_icmp .ge 16, 3) := by decide +kernel
theorem dX9_unlikePaces_9 : decode cX9_unlikePaces 9 = .ok (.aload_n 0, 1) := by decide +kernel
theorem dX9_unlikePaces_10 : decode cX9_unlikePaces 10 = .ok (.getfield 66, 3) := by decide +kernel
theorem dX9_unlikePaces_13 : decode cX9_unlikePaces 13 = .ok (.iload_n 2, 1) := by decide +kernel
theorem dX9_unlikePaces_14 : decode cX9_unlikePaces 14 = .ok (.iconst 0, 1) := by decide +kernel
theorem dX9_unlikePaces_15 : decode cX9_unlikePaces 15 = .ok (.bastore, 1) := by decide +kernel
theorem dX9_unlikePaces_16 : decode cX9_unlikePaces 16 = .ok (.iinc 2 1, 3) := by decide +kernel
theorem dX9_unlikePaces_19 : decode cX9_unlikePaces 19 = .ok (.goto (-17), 3) := by decide +kernel
theorem dX9_unlikePaces_22 : decode cX9_unlikePaces 22 = .ok (.iconst 0, 1) := by decide +kernel
theorem dX9_unlikePaces_23 : decode cX9_unlikePaces 23 = .ok (.istore_n 2, 1) := by decide +kernel
theorem dX9_unlikePaces_24 : decode cX9_unlikePaces 24 = .ok (.aload_n 0, 1) := by decide +kernel
theorem dX9_unlikePaces_25 : decode cX9_unlikePaces 25 = .ok (.iload_n 1, 1) := by decide +kernel
theorem dX9_unlikePaces_26 : decode cX9_unlikePaces 26 = .ok (.iconst 0, 1) := by decide +kernel
theorem dX9_unlikePaces_27 : decode cX9_unlikePaces 27 = .ok (.invokevirtual 183, 3) := by decide +kernel
theorem dX9_unlikePaces_30 : decode cX9_unlikePaces 30 = .ok (.iconst 0, 1) := by decide +kernel
theorem dX9_unlikePaces_31 : decode cX9_unlikePaces 31 = .ok (.istore_n 3, 1) := by decide +kernel
theorem dX9_unlikePaces_32 : decode cX9_unlikePaces 32 = .ok (.iload_n 3, 1) := by decide +kernel
theorem dX9_unlikePaces_33 : decode cX9_unlikePaces 33 = .ok (.sipush 400, 3) := by decide +kernel
theorem dX9_unlikePaces_36 : decode cX9_unlikePaces 36 = .ok (.if_icmp .ge 51, 3) := by decide +kernel
theorem dX9_unlikePaces_39 : decode cX9_unlikePaces 39 = .ok (.aload_n 0, 1) := by decide +kernel
theorem dX9_unlikePaces_40 : decode cX9_unlikePaces 40 = .ok (.getfield 160, 3) := by decide +kernel
theorem dX9_unlikePaces_43 : decode cX9_unlikePaces 43 = .ok (.ifCond .ne 44, 3) := by decide +kernel
theorem dX9_unlikePaces_46 : decode cX9_unlikePaces 46 = .ok (.aload_n 0, 1) := by decide +kernel
theorem dX9_unlikePaces_47 : decode cX9_unlikePaces 47 = .ok (.iload_n 3, 1) := by decide +kernel
theorem dX9_unlikePaces_48 : decode cX9_unlikePaces 48 = .ok (.invokevirtual 206, 3) := by decide +kernel
theorem dX9_unlikePaces_51 : decode cX9_unlikePaces 51 = .ok (.iload_n 2, 1) := by decide +kernel
theorem dX9_unlikePaces_52 : decode cX9_unlikePaces 52 = .ok (.aload_n 0, 1) := by decide +kernel
theorem dX9_unlikePaces_53 : decode cX9_unlikePaces 53 = .ok (.getfield 66, 3) := by decide +kernel
theorem dX9_unlikePaces_56 : decode cX9_unlikePaces 56 = .ok (.aload_n 0, 1) := by decide +kernel
theorem dX9_unlikePaces_57 : decode cX9_unlikePaces 57 = .ok (.getfield 154, 3) := by decide +kernel
theorem dX9_unlikePaces_60 : decode cX9_unlikePaces 60 = .ok (.baload, 1) := by decide +kernel
theorem dX9_unlikePaces_61 : decode cX9_unlikePaces 61 = .ok (.ifCond .eq 7, 3) := by decide +kernel
theorem dX9_unlikePaces_64 : decode cX9_unlikePaces 64 = .ok (.iconst 0, 1) := by decide +kernel
theorem dX9_unlikePaces_65 : decode cX9_unlikePaces 65 = .ok (.goto 4, 3) := by decide +kernel
theorem dX9_unlikePaces_68 : decode cX9_unlikePaces 68 = .ok (.iconst 1, 1) := by decide +kernel
theorem dX9_unlikePaces_69 : decode cX9_unlikePaces 69 = .ok (.iadd, 1) := by decide +kernel
theorem dX9_unlikePaces_70 : decode cX9_unlikePaces 70 = .ok (.istore_n 2, 1) := by decide +kernel
theorem dX9_unlikePaces_71 : decode cX9_unlikePaces 71 = .ok (.aload_n 0, 1) := by decide +kernel
theorem dX9_unlikePaces_72 : decode cX9_unlikePaces 72 = .ok (.getfield 66, 3) := by decide +kernel
theorem dX9_unlikePaces_75 : decode cX9_unlikePaces 75 = .ok (.aload_n 0, 1) := by decide +kernel
theorem dX9_unlikePaces_76 : decode cX9_unlikePaces 76 = .ok (.getfield 154, 3) := by decide +kernel
theorem dX9_unlikePaces_79 : decode cX9_unlikePaces 79 = .ok (.iconst 1, 1) := by decide +kernel
theorem dX9_unlikePaces_80 : decode cX9_unlikePaces 80 = .ok (.bastore, 1) := by decide +kernel
theorem dX9_unlikePaces_81 : decode cX9_unlikePaces 81 = .ok (.iinc 3 1, 3) := by decide +kernel
theorem dX9_unlikePaces_84 : decode cX9_unlikePaces 84 = .ok (.goto (-52), 3) := by decide +kernel
theorem dX9_unlikePaces_87 : decode cX9_unlikePaces 87 = .ok (.iload_n 2, 1) := by decide +kernel
theorem dX9_unlikePaces_88 : decode cX9_unlikePaces 88 = .ok (.ireturn, 1) := by decide +kernel
theorem dX9_mark_0 : decode cX9_mark 0 = .ok (.aload_n 0, 1) := by decide +kernel
theorem dX9_mark_1 : decode cX9_mark 1 = .ok (.iload 5, 2) := by decide +kernel
theorem dX9_mark_3 : decode cX9_mark 3 = .ok (.iconst 1, 1) := by decide +kernel
theorem dX9_mark_4 : decode cX9_mark 4 = .ok (.bipush 7, 2) := by decide +kernel
theorem dX9_mark_6 : decode cX9_mark 6 = .ok (.invokestatic 80, 3) := by decide +kernel
theorem dX9_mark_9 : decode cX9_mark 9 = .ok (.iload_n 1, 1) := by decide +kernel
theorem dX9_mark_10 : decode cX9_mark 10 = .ok (.iload_n 2, 1) := by decide +kernel
theorem dX9_mark_11 : decode cX9_mark 11 = .ok (.iload_n 3, 1) := by decide +kernel
theorem dX9_mark_12 : decode cX9_mark 12 = .ok (.iload 4, 2) := by decide +kernel
theorem dX9_mark_14 : decode cX9_mark 14 = .ok (.invokevirtual 238, 3) := by decide +kernel
theorem dX9_mark_17 : decode cX9_mark 17 = .ok (.istore 6, 2) := by decide +kernel
theorem dX9_mark_19 : decode cX9_mark 19 = .ok (.iload 6, 2) := by decide +kernel
theorem dX9_mark_21 : decode cX9_mark 21 = .ok (.ifCond .ge 6, 3) := by decide +kernel
theorem dX9_mark_24 : decode cX9_mark 24 = .ok (.iload 6, 2) := by decide +kernel
theorem dX9_mark_26 : decode cX9_mark 26 = .ok (.ireturn, 1) := by decide +kernel
theorem dX9_mark_27 : decode cX9_mark 27 = .ok (.aload_n 0, 1) := by decide +kernel
theorem dX9_mark_28 : decode cX9_mark 28 = .ok (.iload 4, 2) := by decide +kernel
theorem dX9_mark_30 : decode cX9_mark 30 = .ok (.invokevirtual 224, 3) := by decide +kernel
theorem dX9_mark_33 : decode cX9_mark 33 = .ok (.iload 5, 2) := by decide +kernel
theorem dX9_mark_35 : decode cX9_mark 35 = .ok (.invokestatic 227, 3) := by decide +kernel
theorem dX9_mark_38 : decode cX9_mark 38 = .ok (.ifCond .ne 9, 3) := by decide +kernel
theorem dX9_mark_41 : decode cX9_mark 41 = .ok (.aload_n 0, 1) := by decide +kernel
theorem dX9_mark_42 : decode cX9_mark 42 = .ok (.iconst 3, 1) := by decide +kernel
theorem dX9_mark_43 : decode cX9_mark 43 = .ok (.invokevirtual 94, 3) := by decide +kernel
theorem dX9_mark_46 : decode cX9_mark 46 = .ok (.ireturn, 1) := by decide +kernel
theorem dX9_mark_47 : decode cX9_mark 47 = .ok (.iload 5, 2) := by decide +kernel
theorem dX9_mark_49 : decode cX9_mark 49 = .ok (.tableswitch 81 1 6 #[39, 44, 54, 61, 66, 71], 39) := by decide +kernel
theorem dX9_mark_88 : decode cX9_mark 88 = .ok (.aload_n 0, 1) := by decide +kernel
theorem dX9_mark_89 : decode cX9_mark 89 = .ok (.getfield 212, 3) := by decide +kernel
theorem dX9_mark_92 : decode cX9_mark 92 = .ok (.ireturn, 1) := by decide +kernel
theorem dX9_mark_93 : decode cX9_mark 93 = .ok (.aload_n 0, 1) := by decide +kernel
theorem dX9_mark_94 : decode cX9_mark 94 = .ok (.getfield 215, 3) := by decide +kernel
theorem dX9_mark_97 : decode cX9_mark 97 = .ok (.aload_n 0, 1) := by decide +kernel
theorem dX9_mark_98 : decode cX9_mark 98 = .ok (.getfield 212, 3) := by decide +kernel
theorem dX9_mark_101 : decode cX9_mark 101 = .ok (.isub, 1) := by decide +kernel
theorem dX9_mark_102 : decode cX9_mark 102 = .ok (.ireturn, 1) := by decide +kernel
theorem dX9_mark_103 : decode cX9_mark 103 = .ok (.aload_n 0, 1) := by decide +kernel
theorem dX9_mark_104 : decode cX9_mark 104 = .ok (.iload 4, 2) := by decide +kernel
theorem dX9_mark_106 : decode cX9_mark 106 = .ok (.invokevirtual 242, 3) := by decide +kernel
theorem dX9_mark_109 : decode cX9_mark 109 = .ok (.ireturn, 1) := by decide +kernel
theorem dX9_mark_110 : decode cX9_mark 110 = .ok (.aload_n 0, 1) := by decide +kernel
theorem dX9_mark_111 : decode cX9_mark 111 = .ok (.getfield 209, 3) := by decide +kernel
theorem dX9_mark_114 : decode cX9_mark 114 = .ok (.ireturn, 1) := by decide +kernel
theorem dX9_mark_115 : decode cX9_mark 115 = .ok (.aload_n 0, 1) := by decide +kernel
theorem dX9_mark_116 : decode cX9_mark 116 = .ok (.getfield 209, 3) := by decide +kernel
theorem dX9_mark_119 : decode cX9_mark 119 = .ok (.ireturn, 1) := by decide +kernel
theorem dX9_mark_120 : decode cX9_mark 120 = .ok (.aload_n 0, 1) := by decide +kernel
theorem dX9_mark_121 : decode cX9_mark 121 = .ok (.invokevirtual 173, 3) := by decide +kernel
theorem dX9_mark_124 : decode cX9_mark 124 = .ok (.aload_n 0, 1) := by decide +kernel
theorem dX9_mark_125 : decode cX9_mark 125 = .ok (.getfield 212, 3) := by decide +kernel
theorem dX9_mark_128 : decode cX9_mark 128 = .ok (.isub, 1) := by decide +kernel
theorem dX9_mark_129 : decode cX9_mark 129 = .ok (.ireturn, 1) := by decide +kernel
theorem dX9_mark_130 : decode cX9_mark 130 = .ok (.aload_n 0, 1) := by decide +kernel
theorem dX9_mark_131 : decode cX9_mark 131 = .ok (.getfield 212, 3) := by decide +kernel
theorem dX9_mark_134 : decode cX9_mark 134 = .ok (.ireturn, 1) := by decide +kernel
theorem dX9_lines_0 : decode cX9_lines 0 = .ok (.aload_n 0, 1) := by decide +kernel
theorem dX9_lines_1 : decode cX9_lines 1 = .ok (.iload 4, 2) := by decide +kernel
theorem dX9_lines_3 : decode cX9_lines 3 = .ok (.iconst 0, 1) := by decide +kernel
theorem dX9_lines_4 : decode cX9_lines 4 = .ok (.bipush 7, 2) := by decide +kernel
theorem dX9_lines_6 : decode cX9_lines 6 = .ok (.invokestatic 80, 3) := by decide +kernel
theorem dX9_lines_9 : decode cX9_lines 9 = .ok (.iload_n 1, 1) := by decide +kernel
theorem dX9_lines_10 : decode cX9_lines 10 = .ok (.iload_n 2, 1) := by decide +kernel
theorem dX9_lines_11 : decode cX9_lines 11 = .ok (.iconst 0, 1) := by decide +kernel
theorem dX9_lines_12 : decode cX9_lines 12 = .ok (.iload_n 3, 1) := by decide +kernel
theorem dX9_lines_13 : decode cX9_lines 13 = .ok (.invokevirtual 238, 3) := by decide +kernel
theorem dX9_lines_16 : decode cX9_lines 16 = .ok (.istore 5, 2) := by decide +kernel
theorem dX9_lines_18 : decode cX9_lines 18 = .ok (.iload 5, 2) := by decide +kernel
theorem dX9_lines_20 : decode cX9_lines 20 = .ok (.ifCond .ge 6, 3) := by decide +kernel
theorem dX9_lines_23 : decode cX9_lines 23 = .ok (.iload 5, 2) := by decide +kernel
theorem dX9_lines_25 : decode cX9_lines 25 = .ok (.ireturn, 1) := by decide +kernel
theorem dX9_lines_26 : decode cX9_lines 26 = .ok (.bipush (-9), 2) := by decide +kernel
theorem dX9_lines_28 : decode cX9_lines 28 = .ok (.istore 6, 2) := by decide +kernel
theorem dX9_lines_30 : decode cX9_lines 30 = .ok (.iconst 0, 1) := by decide +kernel
theorem dX9_lines_31 : decode cX9_lines 31 = .ok (.istore 7, 2) := by decide +kernel
theorem dX9_lines_33 : decode cX9_lines 33 = .ok (.iconst 0, 1) := by decide +kernel
theorem dX9_lines_34 : decode cX9_lines 34 = .ok (.istore 8, 2) := by decide +kernel
theorem dX9_lines_36 : decode cX9_lines 36 = .ok (.iload 8, 2) := by decide +kernel
theorem dX9_lines_38 : decode cX9_lines 38 = .ok (.bipush 99, 2) := by decide +kernel
theorem dX9_lines_40 : decode cX9_lines 40 = .ok (.if_icmp .gt 45, 3) := by decide +kernel
theorem dX9_lines_43 : decode cX9_lines 43 = .ok (.aload_n 0, 1) := by decide +kernel
theorem dX9_lines_44 : decode cX9_lines 44 = .ok (.iload 8, 2) := by decide +kernel
theorem dX9_lines_46 : decode cX9_lines 46 = .ok (.putfield 148, 3) := by decide +kernel
theorem dX9_lines_49 : decode cX9_lines 49 = .ok (.aload_n 0, 1) := by decide +kernel
theorem dX9_lines_50 : decode cX9_lines 50 = .ok (.iload_n 3, 1) := by decide +kernel
theorem dX9_lines_51 : decode cX9_lines 51 = .ok (.invokevirtual 224, 3) := by decide +kernel
theorem dX9_lines_54 : decode cX9_lines 54 = .ok (.iload 4, 2) := by decide +kernel
theorem dX9_lines_56 : decode cX9_lines 56 = .ok (.invokestatic 227, 3) := by decide +kernel
theorem dX9_lines_59 : decode cX9_lines 59 = .ok (.ifCond .eq 20, 3) := by decide +kernel
theorem dX9_lines_62 : decode cX9_lines 62 = .ok (.iload 7, 2) := by decide +kernel
theorem dX9_lines_64 : decode cX9_lines 64 = .ok (.ifCond .ne 8, 3) := by decide +kernel
theorem dX9_lines_67 : decode cX9_lines 67 = .ok (.iload 8, 2) := by decide +kernel
theorem dX9_lines_69 : decode cX9_lines 69 = .ok (.goto 5, 3) := by decide +kernel
theorem dX9_lines_72 : decode cX9_lines 72 = .ok (.iload 6, 2) := by decide +kernel
theorem dX9_lines_74 : decode cX9_lines 74 = .ok (.istore 6, 2) := by decide +kernel
theorem dX9_lines_76 : decode cX9_lines 76 = .ok (.iinc 7 1, 3) := by decide +kernel
theorem dX9_lines_79 : decode cX9_lines 79 = .ok (.iinc 8 1, 3) := by decide +kernel
theorem dX9_lines_82 : decode cX9_lines 82 = .ok (.goto (-46), 3) := by decide +kernel
theorem dX9_lines_85 : decode cX9_lines 85 = .ok (.aload_n 0, 1) := by decide +kernel
theorem dX9_lines_86 : decode cX9_lines 86 = .ok (.iload 6, 2) := by decide +kernel
theorem dX9_lines_88 : decode cX9_lines 88 = .ok (.iload 7, 2) := by decide +kernel
theorem dX9_lines_90 : decode cX9_lines 90 = .ok (.invokevirtual 102, 3) := by decide +kernel
theorem dX9_lines_93 : decode cX9_lines 93 = .ok (.ireturn, 1) := by decide +kernel
theorem dX9_begins_0 : decode cX9_begins 0 = .ok (.aload_n 0, 1) := by decide +kernel
theorem dX9_begins_1 : decode cX9_begins 1 = .ok (.iconst 1, 1) := by decide +kernel
theorem dX9_begins_2 : decode cX9_begins 2 = .ok (.iload_n 1, 1) := by decide +kernel
theorem dX9_begins_3 : decode cX9_begins 3 = .ok (.iload_n 2, 1) := by decide +kernel
theorem dX9_begins_4 : decode cX9_begins 4 = .ok (.iload_n 3, 1) := by decide +kernel
theorem dX9_begins_5 : decode cX9_begins 5 = .ok (.iconst 0, 1) := by decide +kernel
theorem dX9_begins_6 : decode cX9_begins 6 = .ok (.invokevirtual 238, 3) := by decide +kernel
theorem dX9_begins_9 : decode cX9_begins 9 = .ok (.istore 4, 2) := by decide +kernel
theorem dX9_begins_11 : decode cX9_begins 11 = .ok (.iload 4, 2) := by decide +kernel
theorem dX9_begins_13 : decode cX9_begins 13 = .ok (.ifCond .ge 6, 3) := by decide +kernel
theorem dX9_begins_16 : decode cX9_begins 16 = .ok (.iload 4, 2) := by decide +kernel
theorem dX9_begins_18 : decode cX9_begins 18 = .ok (.ireturn, 1) := by decide +kernel
theorem dX9_begins_19 : decode cX9_begins 19 = .ok (.bipush (-9), 2) := by decide +kernel
theorem dX9_begins_21 : decode cX9_begins 21 = .ok (.istore 5, 2) := by decide +kernel
theorem dX9_begins_23 : decode cX9_begins 23 = .ok (.iconst 0, 1) := by decide +kernel
theorem dX9_begins_24 : decode cX9_begins 24 = .ok (.istore 6, 2) := by decide +kernel
theorem dX9_begins_26 : decode cX9_begins 26 = .ok (.iconst 0, 1) := by decide +kernel
theorem dX9_begins_27 : decode cX9_begins 27 = .ok (.istore 7, 2) := by decide +kernel
theorem dX9_begins_29 : decode cX9_begins 29 = .ok (.iload 7, 2) := by decide +kernel
theorem dX9_begins_31 : decode cX9_begins 31 = .ok (.bipush 99, 2) := by decide +kernel
theorem dX9_begins_33 : decode cX9_begins 33 = .ok (.if_icmp .gt 35, 3) := by decide +kernel
theorem dX9_begins_36 : decode cX9_begins 36 = .ok (.aload_n 0, 1) := by decide +kernel
theorem dX9_begins_37 : decode cX9_begins 37 = .ok (.iload 7, 2) := by decide +kernel
theorem dX9_begins_39 : decode cX9_begins 39 = .ok (.invokevirtual 245, 3) := by decide +kernel
theorem dX9_begins_42 : decode cX9_begins 42 = .ok (.ifCond .eq 20, 3) := by decide +kernel
theorem dX9_begins_45 : decode cX9_begins 45 = .ok (.iload 6, 2) := by decide +kernel
theorem dX9_begins_47 : decode cX9_begins 47 = .ok (.ifCond .ne 8, 3) := by decide +kernel
theorem dX9_begins_50 : decode cX9_begins 50 = .ok (.iload 7, 2) := by decide +kernel
theorem dX9_begins_52 : decode cX9_begins 52 = .ok (.goto 5, 3) := by decide +kernel
theorem dX9_begins_55 : decode cX9_begins 55 = .ok (.iload 5, 2) := by decide +kernel
theorem dX9_begins_57 : decode cX9_begins 57 = .ok (.istore 5, 2) := by decide +kernel
theorem dX9_begins_59 : decode cX9_begins 59 = .ok (.iinc 6 1, 3) := by decide +kernel
theorem dX9_begins_62 : decode cX9_begins 62 = .ok (.iinc 7 1, 3) := by decide +kernel
theorem dX9_begins_65 : decode cX9_begins 65 = .ok (.goto (-36), 3) := by decide +kernel
theorem dX9_begins_68 : decode cX9_begins 68 = .ok (.aload_n 0, 1) := by decide +kernel
theorem dX9_begins_69 : decode cX9_begins 69 = .ok (.iload 5, 2) := by decide +kernel
theorem dX9_begins_71 : decode cX9_begins 71 = .ok (.iload 6, 2) := by decide +kernel
theorem dX9_begins_73 : decode cX9_begins 73 = .ok (.invokevirtual 102, 3) := by decide +kernel
theorem dX9_begins_76 : decode cX9_begins 76 = .ok (.ireturn, 1) := by decide +kernel
theorem dX9_mends_0 : decode cX9_mends 0 = .ok (.aload_n 0, 1) := by decide +kernel
theorem dX9_mends_1 : decode cX9_mends 1 = .ok (.iload 5, 2) := by decide +kernel
theorem dX9_mends_3 : decode cX9_mends 3 = .ok (.iconst 1, 1) := by decide +kernel
theorem dX9_mends_4 : decode cX9_mends 4 = .ok (.bipush 20, 2) := by decide +kernel
theorem dX9_mends_6 : decode cX9_mends 6 = .ok (.invokestatic 80, 3) := by decide +kernel
theorem dX9_mends_9 : decode cX9_mends 9 = .ok (.iload_n 1, 1) := by decide +kernel
theorem dX9_mends_10 : decode cX9_mends 10 = .ok (.iload_n 2, 1) := by decide +kernel
theorem dX9_mends_11 : decode cX9_mends 11 = .ok (.iload_n 3, 1) := by decide +kernel
theorem dX9_mends_12 : decode cX9_mends 12 = .ok (.iload 4, 2) := by decide +kernel
theorem dX9_mends_14 : decode cX9_mends 14 = .ok (.invokevirtual 238, 3) := by decide +kernel
theorem dX9_mends_17 : decode cX9_mends 17 = .ok (.istore 6, 2) := by decide +kernel
theorem dX9_mends_19 : decode cX9_mends 19 = .ok (.iload 6, 2) := by decide +kernel
theorem dX9_mends_21 : decode cX9_mends 21 = .ok (.ifCond .ge 6, 3) := by decide +kernel
theorem dX9_mends_24 : decode cX9_mends 24 = .ok (.iload 6, 2) := by decide +kernel
theorem dX9_mends_26 : decode cX9_mends 26 = .ok (.ireturn, 1) := by decide +kernel
theorem dX9_mends_27 : decode cX9_mends 27 = .ok (.aload_n 0, 1) := by decide +kernel
theorem dX9_mends_28 : decode cX9_mends 28 = .ok (.iload 4, 2) := by decide +kernel
theorem dX9_mends_30 : decode cX9_mends 30 = .ok (.invokevirtual 245, 3) := by decide +kernel
theorem dX9_mends_33 : decode cX9_mends 33 = .ok (.ifCond .ne 9, 3) := by decide +kernel
theorem dX9_mends_36 : decode cX9_mends 36 = .ok (.aload_n 0, 1) := by decide +kernel
theorem dX9_mends_37 : decode cX9_mends 37 = .ok (.iconst 3, 1) := by decide +kernel
theorem dX9_mends_38 : decode cX9_mends 38 = .ok (.invokevirtual 94, 3) := by decide +kernel
theorem dX9_mends_41 : decode cX9_mends 41 = .ok (.ireturn, 1) := by decide +kernel
theorem dX9_mends_42 : decode cX9_mends 42 = .ok (.aload_n 0, 1) := by decide +kernel
theorem dX9_mends_43 : decode cX9_mends 43 = .ok (.getfield 212, 3) := by decide +kernel
theorem dX9_mends_46 : decode cX9_mends 46 = .ok (.istore 7, 2) := by decide +kernel
theorem dX9_mends_48 : decode cX9_mends 48 = .ok (.aload_n 0, 1) := by decide +kernel
theorem dX9_mends_49 : decode cX9_mends 49 = .ok (.iload 7, 2) := by decide +kernel
theorem dX9_mends_51 : decode cX9_mends 51 = .ok (.iload 5, 2) := by decide +kernel
theorem dX9_mends_53 : decode cX9_mends 53 = .ok (.iadd, 1) := by decide +kernel
theorem dX9_mends_54 : decode cX9_mends 54 = .ok (.iconst 0, 1) := by decide +kernel
theorem dX9_mends_55 : decode cX9_mends 55 = .ok (.invokevirtual 183, 3) := by decide +kernel
theorem dX9_mends_58 : decode cX9_mends 58 = .ok (.iconst 0, 1) := by decide +kernel
theorem dX9_mends_59 : decode cX9_mends 59 = .ok (.istore 8, 2) := by decide +kernel
theorem dX9_mends_61 : decode cX9_mends 61 = .ok (.iload 8, 2) := by decide +kernel
theorem dX9_mends_63 : decode cX9_mends 63 = .ok (.sipush 400, 3) := by decide +kernel
theorem dX9_mends_66 : decode cX9_mends 66 = .ok (.if_icmp .ge 43, 3) := by decide +kernel
theorem dX9_mends_69 : decode cX9_mends 69 = .ok (.aload_n 0, 1) := by decide +kernel
theorem dX9_mends_70 : decode cX9_mends 70 = .ok (.getfield 160, 3) := by decide +kernel
theorem dX9_mends_73 : decode cX9_mends 73 = .ok (.ifCond .ne 36, 3) := by decide +kernel
theorem dX9_mends_76 : decode cX9_mends 76 = .ok (.aload_n 0, 1) := by decide +kernel
theorem dX9_mends_77 : decode cX9_mends 77 = .ok (.iload 8, 2) := by decide +kernel
theorem dX9_mends_79 : decode cX9_mends 79 = .ok (.invokevirtual 206, 3) := by decide +kernel
theorem dX9_mends_82 : decode cX9_mends 82 = .ok (.aload_n 0, 1) := by decide +kernel
theorem dX9_mends_83 : decode cX9_mends 83 = .ok (.getfield 160, 3) := by decide +kernel
theorem dX9_mends_86 : decode cX9_mends 86 = .ok (.ifCond .ne 17, 3) := by decide +kernel
theorem dX9_mends_89 : decode cX9_mends 89 = .ok (.aload_n 0, 1) := by decide +kernel
theorem dX9_mends_90 : decode cX9_mends 90 = .ok (.getfield 154, 3) := by decide +kernel
theorem dX9_mends_93 : decode cX9_mends 93 = .ok (.iload 7, 2) := by decide +kernel
theorem dX9_mends_95 : decode cX9_mends 95 = .ok (.if_icmp .ne 8, 3) := by decide +kernel
theorem dX9_mends_98 : decode cX9_mends 98 = .ok (.iload 8, 2) := by decide +kernel
theorem dX9_mends_100 : decode cX9_mends 100 = .ok (.iconst 1, 1) := by decide +kernel
theorem dX9_mends_101 : decode cX9_mends 101 = .ok (.iadd, 1) := by decide +kernel
theorem dX9_mends_102 : decode cX9_mends 102 = .ok (.ireturn, 1) := by decide +kernel
theorem dX9_mends_103 : decode cX9_mends 103 = .ok (.iinc 8 1, 3) := by decide +kernel
theorem dX9_mends_106 : decode cX9_mends 106 = .ok (.goto (-45), 3) := by decide +kernel
theorem dX9_mends_109 : decode cX9_mends 109 = .ok (.bipush (-9), 2) := by decide +kernel
theorem dX9_mends_111 : decode cX9_mends 111 = .ok (.ireturn, 1) := by decide +kernel
theorem dX9_span_0 : decode cX9_span 0 = .ok (.iconst 0, 1) := by decide +kernel
theorem dX9_span_1 : decode cX9_span 1 = .ok (.istore_n 2, 1) := by decide +kernel
theorem dX9_span_2 : decode cX9_span 2 = .ok (.iconst 0, 1) := by decide +kernel
theorem dX9_span_3 : decode cX9_span 3 = .ok (.istore_n 3, 1) := by decide +kernel
theorem dX9_span_4 : decode cX9_span 4 = .ok (.iload_n 3, 1) := by decide +kernel
theorem dX9_span_5 : decode cX9_span 5 = .ok (.bipush 99, 2) := by decide +kernel
theorem dX9_span_7 : decode cX9_span 7 = .ok (.if_icmp .gt 30, 3) := by decide +kernel
theorem dX9_span_10 : decode cX9_span 10 = .ok (.aload_n 0, 1) := by decide +kernel
theorem dX9_span_11 : decode cX9_span 11 = .ok (.iload_n 3, 1) := by decide +kernel
theorem dX9_span_12 : decode cX9_span 12 = .ok (.putfield 148, 3) := by decide +kernel
theorem dX9_span_15 : decode cX9_span 15 = .ok (.iload_n 2, 1) := by decide +kernel
theorem dX9_span_16 : decode cX9_span 16 = .ok (.aload_n 0, 1) := by decide +kernel
theorem dX9_span_17 : decode cX9_span 17 = .ok (.iload_n 1, 1) := by decide +kernel
theorem dX9_span_18 : decode cX9_span 18 = .ok (.invokevirtual 245, 3) := by decide +kernel
theorem dX9_span_21 : decode cX9_span 21 = .ok (.ifCond .eq 7, 3) := by decide +kernel
theorem dX9_span_24 : decode cX9_span 24 = .ok (.iconst 1, 1) := by decide +kernel
theorem dX9_span_25 : decode cX9_span 25 = .ok (.goto 4, 3) := by decide +kernel
theorem dX9_span_28 : decode cX9_span 28 = .ok (.iconst 0, 1) := by decide +kernel
theorem dX9_span_29 : decode cX9_span 29 = .ok (.iadd, 1) := by decide +kernel
theorem dX9_span_30 : decode cX9_span 30 = .ok (.istore_n 2, 1) := by decide +kernel
theorem dX9_span_31 : decode cX9_span 31 = .ok (.iinc 3 1, 3) := by decide +kernel
theorem dX9_span_34 : decode cX9_span 34 = .ok (.goto (-30), 3) := by decide +kernel
theorem dX9_span_37 : decode cX9_span 37 = .ok (.iload_n 2, 1) := by decide +kernel
theorem dX9_span_38 : decode cX9_span 38 = .ok (.ireturn, 1) := by decide +kernel
theorem dX9_wide_0 : decode cX9_wide 0 = .ok (.aload_n 0, 1) := by decide +kernel
theorem dX9_wide_1 : decode cX9_wide 1 = .ok (.iconst 1, 1) := by decide +kernel
theorem dX9_wide_2 : decode cX9_wide 2 = .ok (.iload_n 1, 1) := by decide +kernel
theorem dX9_wide_3 : decode cX9_wide 3 = .ok (.iload_n 2, 1) := by decide +kernel
theorem dX9_wide_4 : decode cX9_wide 4 = .ok (.iconst 0, 1) := by decide +kernel
theorem dX9_wide_5 : decode cX9_wide 5 = .ok (.iload_n 3, 1) := by decide +kernel
theorem dX9_wide_6 : decode cX9_wide 6 = .ok (.invokevirtual 238, 3) := by decide +kernel
theorem dX9_wide_9 : decode cX9_wide 9 = .ok (.istore 4, 2) := by decide +kernel
theorem dX9_wide_11 : decode cX9_wide 11 = .ok (.iload 4, 2) := by decide +kernel
theorem dX9_wide_13 : decode cX9_wide 13 = .ok (.ifCond .ge 6, 3) := by decide +kernel
theorem dX9_wide_16 : decode cX9_wide 16 = .ok (.iload 4, 2) := by decide +kernel
theorem dX9_wide_18 : decode cX9_wide 18 = .ok (.ireturn, 1) := by decide +kernel
theorem dX9_wide_19 : decode cX9_wide 19 = .ok (.bipush (-9), 2) := by decide +kernel
theorem dX9_wide_21 : decode cX9_wide 21 = .ok (.istore 5, 2) := by decide +kernel
theorem dX9_wide_23 : decode cX9_wide 23 = .ok (.iconst (-1), 1) := by decide +kernel
theorem dX9_wide_24 : decode cX9_wide 24 = .ok (.istore 6, 2) := by decide +kernel
theorem dX9_wide_26 : decode cX9_wide 26 = .ok (.iconst 0, 1) := by decide +kernel
theorem dX9_wide_27 : decode cX9_wide 27 = .ok (.istore 7, 2) := by decide +kernel
theorem dX9_wide_29 : decode cX9_wide 29 = .ok (.iload 7, 2) := by decide +kernel
theorem dX9_wide_31 : decode cX9_wide 31 = .ok (.bipush 81, 2) := by decide +kernel
theorem dX9_wide_33 : decode cX9_wide 33 = .ok (.if_icmp .ge 81, 3) := by decide +kernel
theorem dX9_wide_36 : decode cX9_wide 36 = .ok (.aload_n 0, 1) := by decide +kernel
theorem dX9_wide_37 : decode cX9_wide 37 = .ok (.getfield 48, 3) := by decide +kernel
theorem dX9_wide_40 : decode cX9_wide 40 = .ok (.iconst 1, 1) := by decide +kernel
theorem dX9_wide_41 : decode cX9_wide 41 = .ok (.iconst 1, 1) := by decide +kernel
theorem dX9_wide_42 : decode cX9_wide 42 = .ok (.iload 7, 2) := by decide +kernel
theorem dX9_wide_44 : decode cX9_wide 44 = .ok (.bipush 9, 2) := by decide +kernel
theorem dX9_wide_46 : decode cX9_wide 46 = .ok (.idiv, 1) := by decide +kernel
theorem dX9_wide_47 : decode cX9_wide 47 = .ok (.iadd, 1) := by decide +kernel
theorem dX9_wide_48 : decode cX9_wide 48 = .ok (.iastore, 1) := by decide +kernel
theorem dX9_wide_49 : decode cX9_wide 49 = .ok (.aload_n 0, 1) := by decide +kernel
theorem dX9_wide_50 : decode cX9_wide 50 = .ok (.getfield 48, 3) := by decide +kernel
theorem dX9_wide_53 : decode cX9_wide 53 = .ok (.iconst 2, 1) := by decide +kernel
theorem dX9_wide_54 : decode cX9_wide 54 = .ok (.iconst 1, 1) := by decide +kernel
theorem dX9_wide_55 : decode cX9_wide 55 = .ok (.iload 7, 2) := by decide +kernel
theorem dX9_wide_57 : decode cX9_wide 57 = .ok (.bipush 9, 2) := by decide +kernel
theorem dX9_wide_59 : decode cX9_wide 59 = .ok (.irem, 1) := by decide +kernel
theorem dX9_wide_60 : decode cX9_wide 60 = .ok (.iadd, 1) := by decide +kernel
theorem dX9_wide_61 : decode cX9_wide 61 = .ok (.iastore, 1) := by decide +kernel
theorem dX9_wide_62 : decode cX9_wide 62 = .ok (.aload_n 0, 1) := by decide +kernel
theorem dX9_wide_63 : decode cX9_wide 63 = .ok (.iload_n 3, 1) := by decide +kernel
theorem dX9_wide_64 : decode cX9_wide 64 = .ok (.invokevirtual 248, 3) := by decide +kernel
theorem dX9_wide_67 : decode cX9_wide 67 = .ok (.istore 8, 2) := by decide +kernel
theorem dX9_wide_69 : decode cX9_wide 69 = .ok (.iload 8, 2) := by decide +kernel
theorem dX9_wide_71 : decode cX9_wide 71 = .ok (.iload 6, 2) := by decide +kernel
theorem dX9_wide_73 : decode cX9_wide 73 = .ok (.if_icmp .le 22, 3) := by decide +kernel
theorem dX9_wide_76 : decode cX9_wide 76 = .ok (.bipush 10, 2) := by decide +kernel
theorem dX9_wide_78 : decode cX9_wide 78 = .ok (.aload_n 0, 1) := by decide +kernel
theorem dX9_wide_79 : decode cX9_wide 79 = .ok (.getfield 48, 3) := by decide +kernel
theorem dX9_wide_82 : decode cX9_wide 82 = .ok (.iconst 1, 1) := by decide +kernel
theorem dX9_wide_83 : decode cX9_wide 83 = .ok (.iaload, 1) := by decide +kernel
theorem dX9_wide_84 : decode cX9_wide 84 = .ok (.imul, 1) := by decide +kernel
theorem dX9_wide_85 : decode cX9_wide 85 = .ok (.aload_n 0, 1) := by decide +kernel
theorem dX9_wide_86 : decode cX9_wide 86 = .ok (.getfield 48, 3) := by decide +kernel
theorem dX9_wide_89 : decode cX9_wide 89 = .ok (.iconst 2, 1) := by decide +kernel
theorem dX9_wide_90 : decode cX9_wide 90 = .ok (.iaload, 1) := by decide +kernel
theorem dX9_wide_91 : decode cX9_wide 91 = .ok (.iadd, 1) := by decide +kernel
theorem dX9_wide_92 : decode cX9_wide 92 = .ok (.goto 5, 3) := by decide +kernel
theorem dX9_wide_95 : decode cX9_wide 95 = .ok (.iload 5, 2) := by decide +kernel
theorem dX9_wide_97 : decode cX9_wide 97 = .ok (.istore 5, 2) := by decide +kernel
theorem dX9_wide_99 : decode cX9_wide 99 = .ok (.iload 6, 2) := by decide +kernel
theorem dX9_wide_101 : decode cX9_wide 101 = .ok (.iload 8, 2) := by decide +kernel
theorem dX9_wide_103 : decode cX9_wide 103 = .ok (.invokestatic 221, 3) := by decide +kernel
theorem dX9_wide_106 : decode cX9_wide 106 = .ok (.istore 6, 2) := by decide +kernel
theorem dX9_wide_108 : decode cX9_wide 108 = .ok (.iinc 7 1, 3) := by decide +kernel
theorem dX9_wide_111 : decode cX9_wide 111 = .ok (.goto (-82), 3) := by decide +kernel
theorem dX9_wide_114 : decode cX9_wide 114 = .ok (.aload_n 0, 1) := by decide +kernel
theorem dX9_wide_115 : decode cX9_wide 115 = .ok (.iload 6, 2) := by decide +kernel
theorem dX9_wide_117 : decode cX9_wide 117 = .ok (.iload 5, 2) := by decide +kernel
theorem dX9_wide_119 : decode cX9_wide 119 = .ok (.invokevirtual 102, 3) := by decide +kernel
theorem dX9_wide_122 : decode cX9_wide 122 = .ok (.ireturn, 1) := by decide +kernel
theorem dX9_mend_0 : decode cX9_mend 0 = .ok (.aload_n 0, 1) := by decide +kernel
theorem dX9_mend_1 : decode cX9_mend 1 = .ok (.iconst 1, 1) := by decide +kernel
theorem dX9_mend_2 : decode cX9_mend 2 = .ok (.iload_n 1, 1) := by decide +kernel
theorem dX9_mend_3 : decode cX9_mend 3 = .ok (.iload_n 2, 1) := by decide +kernel
theorem dX9_mend_4 : decode cX9_mend 4 = .ok (.iload_n 3, 1) := by decide +kernel
theorem dX9_mend_5 : decode cX9_mend 5 = .ok (.iload 4, 2) := by decide +kernel
theorem dX9_mend_7 : decode cX9_mend 7 = .ok (.invokevirtual 238, 3) := by decide +kernel
theorem dX9_mend_10 : decode cX9_mend 10 = .ok (.istore 5, 2) := by decide +kernel
theorem dX9_mend_12 : decode cX9_mend 12 = .ok (.iload 5, 2) := by decide +kernel
theorem dX9_mend_14 : decode cX9_mend 14 = .ok (.ifCond .ge 6, 3) := by decide +kernel
theorem dX9_mend_17 : decode cX9_mend 17 = .ok (.iload 5, 2) := by decide +kernel
theorem dX9_mend_19 : decode cX9_mend 19 = .ok (.ireturn, 1) := by decide +kernel
theorem dX9_mend_20 : decode cX9_mend 20 = .ok (.iconst 0, 1) := by decide +kernel
theorem dX9_mend_21 : decode cX9_mend 21 = .ok (.istore 6, 2) := by decide +kernel
theorem dX9_mend_23 : decode cX9_mend 23 = .ok (.iload 6, 2) := by decide +kernel
theorem dX9_mend_25 : decode cX9_mend 25 = .ok (.bipush 18, 2) := by decide +kernel
theorem dX9_mend_27 : decode cX9_mend 27 = .ok (.if_icmp .gt 87, 3) := by decide +kernel
theorem dX9_mend_30 : decode cX9_mend 30 = .ok (.iconst 0, 1) := by decide +kernel
theorem dX9_mend_31 : decode cX9_mend 31 = .ok (.istore 7, 2) := by decide +kernel
theorem dX9_mend_33 : decode cX9_mend 33 = .ok (.iload 7, 2) := by decide +kernel
theorem dX9_mend_35 : decode cX9_mend 35 = .ok (.bipush 9, 2) := by decide +kernel
theorem dX9_mend_37 : decode cX9_mend 37 = .ok (.if_icmp .gt 71, 3) := by decide +kernel
theorem dX9_mend_40 : decode cX9_mend 40 = .ok (.iload 6, 2) := by decide +kernel
theorem dX9_mend_42 : decode cX9_mend 42 = .ok (.iload 7, 2) := by decide +kernel
theorem dX9_mend_44 : decode cX9_mend 44 = .ok (.isub, 1) := by decide +kernel
theorem dX9_mend_45 : decode cX9_mend 45 = .ok (.iconst 0, 1) := by decide +kernel
theorem dX9_mend_46 : decode cX9_mend 46 = .ok (.bipush 9, 2) := by decide +kernel
theorem dX9_mend_48 : decode cX9_mend 48 = .ok (.invokestatic 80, 3) := by decide +kernel
theorem dX9_mend_51 : decode cX9_mend 51 = .ok (.ifCond .eq 51, 3) := by decide +kernel
theorem dX9_mend_54 : decode cX9_mend 54 = .ok (.aload_n 0, 1) := by decide +kernel
theorem dX9_mend_55 : decode cX9_mend 55 = .ok (.getfield 48, 3) := by decide +kernel
theorem dX9_mend_58 : decode cX9_mend 58 = .ok (.iconst 4, 1) := by decide +kernel
theorem dX9_mend_59 : decode cX9_mend 59 = .ok (.iload 7, 2) := by decide +kernel
theorem dX9_mend_61 : decode cX9_mend 61 = .ok (.iastore, 1) := by decide +kernel
theorem dX9_mend_62 : decode cX9_mend 62 = .ok (.aload_n 0, 1) := by decide +kernel
theorem dX9_mend_63 : decode cX9_mend 63 = .ok (.getfield 48, 3) := by decide +kernel
theorem dX9_mend_66 : decode cX9_mend 66 = .ok (.iconst 5, 1) := by decide +kernel
theorem dX9_mend_67 : decode cX9_mend 67 = .ok (.iload 6, 2) := by decide +kernel
theorem dX9_mend_69 : decode cX9_mend 69 = .ok (.iload 7, 2) := by decide +kernel
theorem dX9_mend_71 : decode cX9_mend 71 = .ok (.isub, 1) := by decide +kernel
theorem dX9_mend_72 : decode cX9_mend 72 = .ok (.iastore, 1) := by decide +kernel
theorem dX9_mend_73 : decode cX9_mend 73 = .ok (.aload_n 0, 1) := by decide +kernel
theorem dX9_mend_74 : decode cX9_mend 74 = .ok (.iload 4, 2) := by decide +kernel
theorem dX9_mend_76 : decode cX9_mend 76 = .ok (.invokevirtual 245, 3) := by decide +kernel
theorem dX9_mend_79 : decode cX9_mend 79 = .ok (.ifCond .eq 23, 3) := by decide +kernel
theorem dX9_mend_82 : decode cX9_mend 82 = .ok (.aload_n 0, 1) := by decide +kernel
theorem dX9_mend_83 : decode cX9_mend 83 = .ok (.aload_n 0, 1) := by decide +kernel
theorem dX9_mend_84 : decode cX9_mend 84 = .ok (.getfield 212, 3) := by decide +kernel
theorem dX9_mend_87 : decode cX9_mend 87 = .ok (.bipush 10, 2) := by decide +kernel
theorem dX9_mend_89 : decode cX9_mend 89 = .ok (.iload 7, 2) := by decide +kernel
theorem dX9_mend_91 : decode cX9_mend 91 = .ok (.imul, 1) := by decide +kernel
theorem dX9_mend_92 : decode cX9_mend 92 = .ok (.iload 6, 2) := by decide +kernel
theorem dX9_mend_94 : decode cX9_mend 94 = .ok (.iadd, 1) := by decide +kernel
theorem dX9_mend_95 : decode cX9_mend 95 = .ok (.iload 7, 2) := by decide +kernel
theorem dX9_mend_97 : decode cX9_mend 97 = .ok (.isub, 1) := by decide +kernel
theorem dX9_mend_98 : decode cX9_mend 98 = .ok (.invokevirtual 102, 3) := by decide +kernel
theorem dX9_mend_101 : decode cX9_mend 101 = .ok (.ireturn, 1) := by decide +kernel
theorem dX9_mend_102 : decode cX9_mend 102 = .ok (.iinc 7 1, 3) := by decide +kernel
theorem dX9_mend_105 : decode cX9_mend 105 = .ok (.goto (-72), 3) := by decide +kernel
theorem dX9_mend_108 : decode cX9_mend 108 = .ok (.iinc 6 1, 3) := by decide +kernel
theorem dX9_mend_111 : decode cX9_mend 111 = .ok (.goto (-88), 3) := by decide +kernel
theorem dX9_mend_114 : decode cX9_mend 114 = .ok (.bipush (-9), 2) := by decide +kernel
theorem dX9_mend_116 : decode cX9_mend 116 = .ok (.ireturn, 1) := by decide +kernel
theorem dX9_needTocks_0 : decode cX9_needTocks 0 = .ok (.iload_n 1, 1) := by decide +kernel
theorem dX9_needTocks_1 : decode cX9_needTocks 1 = .ok (.invokestatic 139, 3) := by decide +kernel
theorem dX9_needTocks_4 : decode cX9_needTocks 4 = .ok (.ifCond .eq 17, 3) := by decide +kernel
theorem dX9_needTocks_7 : decode cX9_needTocks 7 = .ok (.iload_n 2, 1) := by decide +kernel
theorem dX9_needTocks_8 : decode cX9_needTocks 8 = .ok (.invokestatic 139, 3) := by decide +kernel
theorem dX9_needTocks_11 : decode cX9_needTocks 11 = .ok (.ifCond .eq 10, 3) := by decide +kernel
theorem dX9_needTocks_14 : decode cX9_needTocks 14 = .ok (.iload_n 3, 1) := by decide +kernel
theorem dX9_needTocks_15 : decode cX9_needTocks 15 = .ok (.invokestatic 90, 3) := by decide +kernel
theorem dX9_needTocks_18 : decode cX9_needTocks 18 = .ok (.ifCond .ne 5, 3) := by decide +kernel
theorem dX9_needTocks_21 : decode cX9_needTocks 21 = .ok (.iconst (-1), 1) := by decide +kernel
theorem dX9_needTocks_22 : decode cX9_needTocks 22 = .ok (.ireturn, 1) := by decide +kernel
theorem dX9_needTocks_23 : decode cX9_needTocks 23 = .ok (.aload_n 0, 1) := by decide +kernel
theorem dX9_needTocks_24 : decode cX9_needTocks 24 = .ok (.getfield 29, 3) := by decide +kernel
theorem dX9_needTocks_27 : decode cX9_needTocks 27 = .ok (.iload_n 1, 1) := by decide +kernel
theorem dX9_needTocks_28 : decode cX9_needTocks 28 = .ok (.baload, 1) := by decide +kernel
theorem dX9_needTocks_29 : decode cX9_needTocks 29 = .ok (.ifCond .eq 21, 3) := by decide +kernel
theorem dX9_needTocks_32 : decode cX9_needTocks 32 = .ok (.aload_n 0, 1) := by decide +kernel
theorem dX9_needTocks_33 : decode cX9_needTocks 33 = .ok (.getfield 36, 3) := by decide +kernel
theorem dX9_needTocks_36 : decode cX9_needTocks 36 = .ok (.iload_n 2, 1) := by decide +kernel
theorem dX9_needTocks_37 : decode cX9_needTocks 37 = .ok (.baload, 1) := by decide +kernel
theorem dX9_needTocks_38 : decode cX9_needTocks 38 = .ok (.ifCond .eq 12, 3) := by decide +kernel
theorem dX9_needTocks_41 : decode cX9_needTocks 41 = .ok (.aload_n 0, 1) := by decide +kernel
theorem dX9_needTocks_42 : decode cX9_needTocks 42 = .ok (.getfield 13, 3) := by decide +kernel
theorem dX9_needTocks_45 : decode cX9_needTocks 45 = .ok (.iload_n 3, 1) := by decide +kernel
theorem dX9_needTocks_46 : decode cX9_needTocks 46 = .ok (.iaload, 1) := by decide +kernel
theorem dX9_needTocks_47 : decode cX9_needTocks 47 = .ok (.ifCond .ge 9, 3) := by decide +kernel
theorem dX9_needTocks_50 : decode cX9_needTocks 50 = .ok (.aload_n 0, 1) := by decide +kernel
theorem dX9_needTocks_51 : decode cX9_needTocks 51 = .ok (.iconst 1, 1) := by decide +kernel
theorem dX9_needTocks_52 : decode cX9_needTocks 52 = .ok (.invokevirtual 94, 3) := by decide +kernel
theorem dX9_needTocks_55 : decode cX9_needTocks 55 = .ok (.ireturn, 1) := by decide +kernel
theorem dX9_needTocks_56 : decode cX9_needTocks 56 = .ok (.aload_n 0, 1) := by decide +kernel
theorem dX9_needTocks_57 : decode cX9_needTocks 57 = .ok (.getfield 13, 3) := by decide +kernel
theorem dX9_needTocks_60 : decode cX9_needTocks 60 = .ok (.iload_n 3, 1) := by decide +kernel
theorem dX9_needTocks_61 : decode cX9_needTocks 61 = .ok (.iaload, 1) := by decide +kernel
theorem dX9_needTocks_62 : decode cX9_needTocks 62 = .ok (.iconst 2, 1) := by decide +kernel
theorem dX9_needTocks_63 : decode cX9_needTocks 63 = .ok (.if_icmp .ge 9, 3) := by decide +kernel
theorem dX9_needTocks_66 : decode cX9_needTocks 66 = .ok (.aload_n 0, 1) := by decide +kernel
theorem dX9_needTocks_67 : decode cX9_needTocks 67 = .ok (.iconst 5, 1) := by decide +kernel
theorem dX9_needTocks_68 : decode cX9_needTocks 68 = .ok (.invokevirtual 94, 3) := by decide +kernel
theorem dX9_needTocks_71 : decode cX9_needTocks 71 = .ok (.ireturn, 1) := by decide +kernel
theorem dX9_needTocks_72 : decode cX9_needTocks 72 = .ok (.iconst 1, 1) := by decide +kernel
theorem dX9_needTocks_73 : decode cX9_needTocks 73 = .ok (.istore 4, 2) := by decide +kernel
theorem dX9_needTocks_75 : decode cX9_needTocks 75 = .ok (.iconst 0, 1) := by decide +kernel
theorem dX9_needTocks_76 : decode cX9_needTocks 76 = .ok (.istore 5, 2) := by decide +kernel
theorem dX9_needTocks_78 : decode cX9_needTocks 78 = .ok (.iload 5, 2) := by decide +kernel
theorem dX9_needTocks_80 : decode cX9_needTocks 80 = .ok (.aload_n 0, 1) := by decide +kernel
theorem dX9_needTocks_81 : decode cX9_needTocks 81 = .ok (.getfield 13, 3) := by decide +kernel
theorem dX9_needTocks_84 : decode cX9_needTocks 84 = .ok (.iload_n 3, 1) := by decide +kernel
theorem dX9_needTocks_85 : decode cX9_needTocks 85 = .ok (.iaload, 1) := by decide +kernel
theorem dX9_needTocks_86 : decode cX9_needTocks 86 = .ok (.if_icmp .ge 37, 3) := by decide +kernel
theorem dX9_needTocks_89 : decode cX9_needTocks 89 = .ok (.iload 4, 2) := by decide +kernel
theorem dX9_needTocks_91 : decode cX9_needTocks 91 = .ok (.ifCond .eq 23, 3) := by decide +kernel
theorem dX9_needTocks_94 : decode cX9_needTocks 94 = .ok (.aload_n 0, 1) := by decide +kernel
theorem dX9_needTocks_95 : decode cX9_needTocks 95 = .ok (.iload_n 3, 1) := by decide +kernel
theorem dX9_needTocks_96 : decode cX9_needTocks 96 = .ok (.iload 5, 2) := by decide +kernel
theorem dX9_needTocks_98 : decode cX9_needTocks 98 = .ok (.invokevirtual 98, 3) := by decide +kernel
theorem dX9_needTocks_101 : decode cX9_needTocks 101 = .ok (.iconst 0, 1) := by decide +kernel
theorem dX9_needTocks_102 : decode cX9_needTocks 102 = .ok (.bipush 99, 2) := by decide +kernel
theorem dX9_needTocks_104 : decode cX9_needTocks 104 = .ok (.invokestatic 80, 3) := by decide +kernel
theorem dX9_needTocks_107 : decode cX9_needTocks 107 = .ok (.ifCond .eq 7, 3) := by decide +kernel
theorem dX9_needTocks_110 : decode cX9_needTocks 110 = .ok (.iconst 1, 1) := by decide +kernel
theorem dX9_needTocks_111 : decode cX9_needTocks 111 = .ok (.goto 4, 3) := by decide +kernel
theorem dX9_needTocks_114 : decode cX9_needTocks 114 = .ok (.iconst 0, 1) := by decide +kernel
theorem dX9_needTocks_115 : decode cX9_needTocks 115 = .ok (.istore 4, 2) := by decide +kernel
theorem dX9_needTocks_117 : decode cX9_needTocks 117 = .ok (.iinc 5 1, 3) := by decide +kernel
theorem dX9_needTocks_120 : decode cX9_needTocks 120 = .ok (.goto (-42), 3) := by decide +kernel
theorem dX9_needTocks_123 : decode cX9_needTocks 123 = .ok (.iload 4, 2) := by decide +kernel
theorem dX9_needTocks_125 : decode cX9_needTocks 125 = .ok (.ifCond .ne 9, 3) := by decide +kernel
theorem dX9_needTocks_128 : decode cX9_needTocks 128 = .ok (.aload_n 0, 1) := by decide +kernel
theorem dX9_needTocks_129 : decode cX9_needTocks 129 = .ok (.iconst 3, 1) := by decide +kernel
theorem dX9_needTocks_130 : decode cX9_needTocks 130 = .ok (.invokevirtual 94, 3) := by decide +kernel
theorem dX9_needTocks_133 : decode cX9_needTocks 133 = .ok (.ireturn, 1) := by decide +kernel
theorem dX9_needTocks_134 : decode cX9_needTocks 134 = .ok (.aload_n 0, 1) := by decide +kernel
theorem dX9_needTocks_135 : decode cX9_needTocks 135 = .ok (.iload_n 1, 1) := by decide +kernel
theorem dX9_needTocks_136 : decode cX9_needTocks 136 = .ok (.iload_n 2, 1) := by decide +kernel
theorem dX9_needTocks_137 : decode cX9_needTocks 137 = .ok (.iconst 0, 1) := by decide +kernel
theorem dX9_needTocks_138 : decode cX9_needTocks 138 = .ok (.invokevirtual 234, 3) := by decide +kernel
theorem dX9_needTocks_141 : decode cX9_needTocks 141 = .ok (.iconst 0, 1) := by decide +kernel
theorem dX9_needTocks_142 : decode cX9_needTocks 142 = .ok (.ireturn, 1) := by decide +kernel
theorem dX9_offTocks_0 : decode cX9_offTocks 0 = .ok (.aload_n 0, 1) := by decide +kernel
theorem dX9_offTocks_1 : decode cX9_offTocks 1 = .ok (.iload_n 2, 1) := by decide +kernel
theorem dX9_offTocks_2 : decode cX9_offTocks 2 = .ok (.putfield 148, 3) := by decide +kernel
theorem dX9_offTocks_5 : decode cX9_offTocks 5 = .ok (.aload_n 0, 1) := by decide +kernel
theorem dX9_offTocks_6 : decode cX9_offTocks 6 = .ok (.getfield 48, 3) := by decide +kernel
theorem dX9_offTocks_9 : decode cX9_offTocks 9 = .ok (.iconst 4, 1) := by decide +kernel
theorem dX9_offTocks_10 : decode cX9_offTocks 10 = .ok (.iload_n 3, 1) := by decide +kernel
theorem dX9_offTocks_11 : decode cX9_offTocks 11 = .ok (.iastore, 1) := by decide +kernel
theorem dX9_offTocks_12 : decode cX9_offTocks 12 = .ok (.aload_n 0, 1) := by decide +kernel
theorem dX9_offTocks_13 : decode cX9_offTocks 13 = .ok (.getfield 48, 3) := by decide +kernel
theorem dX9_offTocks_16 : decode cX9_offTocks 16 = .ok (.iconst 5, 1) := by decide +kernel
theorem dX9_offTocks_17 : decode cX9_offTocks 17 = .ok (.iconst 0, 1) := by decide +kernel
theorem dX9_offTocks_18 : decode cX9_offTocks 18 = .ok (.iastore, 1) := by decide +kernel
theorem dX9_offTocks_19 : decode cX9_offTocks 19 = .ok (.aload_n 0, 1) := by decide +kernel
theorem dX9_offTocks_20 : decode cX9_offTocks 20 = .ok (.aload_n 0, 1) := by decide +kernel
theorem dX9_offTocks_21 : decode cX9_offTocks 21 = .ok (.iload_n 1, 1) := by decide +kernel
theorem dX9_offTocks_22 : decode cX9_offTocks 22 = .ok (.iconst 0, 1) := by decide +kernel
theorem dX9_offTocks_23 : decode cX9_offTocks 23 = .ok (.invokevirtual 98, 3) := by decide +kernel
theorem dX9_offTocks_26 : decode cX9_offTocks 26 = .ok (.iconst 0, 1) := by decide +kernel
theorem dX9_offTocks_27 : decode cX9_offTocks 27 = .ok (.invokevirtual 183, 3) := by decide +kernel
theorem dX9_offTocks_30 : decode cX9_offTocks 30 = .ok (.iconst 0, 1) := by decide +kernel
theorem dX9_offTocks_31 : decode cX9_offTocks 31 = .ok (.istore 4, 2) := by decide +kernel
theorem dX9_offTocks_33 : decode cX9_offTocks 33 = .ok (.iconst 1, 1) := by decide +kernel
theorem dX9_offTocks_34 : decode cX9_offTocks 34 = .ok (.istore 5, 2) := by decide +kernel
theorem dX9_offTocks_36 : decode cX9_offTocks 36 = .ok (.iload 5, 2) := by decide +kernel
theorem dX9_offTocks_38 : decode cX9_offTocks 38 = .ok (.aload_n 0, 1) := by decide +kernel
theorem dX9_offTocks_39 : decode cX9_offTocks 39 = .ok (.getfield 13, 3) := by decide +kernel
theorem dX9_offTocks_42 : decode cX9_offTocks 42 = .ok (.iload_n 1, 1) := by decide +kernel
theorem dX9_offTocks_43 : decode cX9_offTocks 43 = .ok (.iaload, 1) := by decide +kernel
theorem dX9_offTocks_44 : decode cX9_offTocks 44 = .ok (.if_icmp .ge 81, 3) := by decide +kernel
theorem dX9_offTocks_47 : decode cX9_offTocks 47 = .ok (.aload_n 0, 1) := by decide +kernel
theorem dX9_offTocks_48 : decode cX9_offTocks 48 = .ok (.getfield 160, 3) := by decide +kernel
theorem dX9_offTocks_51 : decode cX9_offTocks 51 = .ok (.ifCond .ne 11, 3) := by decide +kernel
theorem dX9_offTocks_54 : decode cX9_offTocks 54 = .ok (.aload_n 0, 1) := by decide +kernel
theorem dX9_offTocks_55 : decode cX9_offTocks 55 = .ok (.iload 5, 2) := by decide +kernel
theorem dX9_offTocks_57 : decode cX9_offTocks 57 = .ok (.iconst 1, 1) := by decide +kernel
theorem dX9_offTocks_58 : decode cX9_offTocks 58 = .ok (.isub, 1) := by decide +kernel
theorem dX9_offTocks_59 : decode cX9_offTocks 59 = .ok (.invokevirtual 206, 3) := by decide +kernel
theorem dX9_offTocks_62 : decode cX9_offTocks 62 = .ok (.aload_n 0, 1) := by decide +kernel
theorem dX9_offTocks_63 : decode cX9_offTocks 63 = .ok (.getfield 160, 3) := by decide +kernel
theorem dX9_offTocks_66 : decode cX9_offTocks 66 = .ok (.ifCond .ne 10, 3) := by decide +kernel
theorem dX9_offTocks_69 : decode cX9_offTocks 69 = .ok (.aload_n 0, 1) := by decide +kernel
theorem dX9_offTocks_70 : decode cX9_offTocks 70 = .ok (.getfield 154, 3) := by decide +kernel
theorem dX9_offTocks_73 : decode cX9_offTocks 73 = .ok (.goto 4, 3) := by decide +kernel
theorem dX9_offTocks_76 : decode cX9_offTocks 76 = .ok (.iconst 0, 1) := by decide +kernel
theorem dX9_offTocks_77 : decode cX9_offTocks 77 = .ok (.istore 6, 2) := by decide +kernel
theorem dX9_offTocks_79 : decode cX9_offTocks 79 = .ok (.iload 4, 2) := by decide +kernel
theorem dX9_offTocks_81 : decode cX9_offTocks 81 = .ok (.iload 6, 2) := by decide +kernel
theorem dX9_offTocks_83 : decode cX9_offTocks 83 = .ok (.aload_n 0, 1) := by decide +kernel
theorem dX9_offTocks_84 : decode cX9_offTocks 84 = .ok (.iload_n 1, 1) := by decide +kernel
theorem dX9_offTocks_85 : decode cX9_offTocks 85 = .ok (.iload 5, 2) := by decide +kernel
theorem dX9_offTocks_87 : decode cX9_offTocks 87 = .ok (.invokevirtual 98, 3) := by decide +kernel
theorem dX9_offTocks_90 : decode cX9_offTocks 90 = .ok (.if_icmp .ge 16, 3) := by decide +kernel
theorem dX9_offTocks_93 : decode cX9_offTocks 93 = .ok (.aload_n 0, 1) := by decide +kernel
theorem dX9_offTocks_94 : decode cX9_offTocks 94 = .ok (.iload_n 1, 1) := by decide +kernel
theorem dX9_offTocks_95 : decode cX9_offTocks 95 = .ok (.iload 5, 2) := by decide +kernel
theorem dX9_offTocks_97 : decode cX9_offTocks 97 = .ok (.invokevirtual 98, 3) := by decide +kernel
theorem dX9_offTocks_100 : decode cX9_offTocks 100 = .ok (.iload 6, 2) := by decide +kernel
theorem dX9_offTocks_102 : decode cX9_offTocks 102 = .ok (.isub, 1) := by decide +kernel
theorem dX9_offTocks_103 : decode cX9_offTocks 103 = .ok (.goto 13, 3) := by decide +kernel
theorem dX9_offTocks_106 : decode cX9_offTocks 106 = .ok (.iload 6, 2) := by decide +kernel
theorem dX9_offTocks_108 : decode cX9_offTocks 108 = .ok (.aload_n 0, 1) := by decide +kernel
theorem dX9_offTocks_109 : decode cX9_offTocks 109 = .ok (.iload_n 1, 1) := by decide +kernel
theorem dX9_offTocks_110 : decode cX9_offTocks 110 = .ok (.iload 5, 2) := by decide +kernel
theorem dX9_offTocks_112 : decode cX9_offTocks 112 = .ok (.invokevirtual 98, 3) := by decide +kernel
theorem dX9_offTocks_115 : decode cX9_offTocks 115 = .ok (.isub, 1) := by decide +kernel
theorem dX9_offTocks_116 : decode cX9_offTocks 116 = .ok (.iadd, 1) := by decide +kernel
theorem dX9_offTocks_117 : decode cX9_offTocks 117 = .ok (.istore 4, 2) := by decide +kernel
theorem dX9_offTocks_119 : decode cX9_offTocks 119 = .ok (.iinc 5 1, 3) := by decide +kernel
theorem dX9_offTocks_122 : decode cX9_offTocks 122 = .ok (.goto (-86), 3) := by decide +kernel
theorem dX9_offTocks_125 : decode cX9_offTocks 125 = .ok (.iload 4, 2) := by decide +kernel
theorem dX9_offTocks_127 : decode cX9_offTocks 127 = .ok (.ireturn, 1) := by decide +kernel
theorem dX9_limp_0 : decode cX9_limp 0 = .ok (.aload_n 0, 1) := by decide +kernel
theorem dX9_limp_1 : decode cX9_limp 1 = .ok (.iload_n 1, 1) := by decide +kernel
theorem dX9_limp_2 : decode cX9_limp 2 = .ok (.iload_n 2, 1) := by decide +kernel
theorem dX9_limp_3 : decode cX9_limp 3 = .ok (.iload_n 3, 1) := by decide +kernel
theorem dX9_limp_4 : decode cX9_limp 4 = .ok (.invokevirtual 251, 3) := by decide +kernel
theorem dX9_limp_7 : decode cX9_limp 7 = .ok (.istore 4, 2) := by decide +kernel
theorem dX9_limp_9 : decode cX9_limp 9 = .ok (.iload 4, 2) := by decide +kernel
theorem dX9_limp_11 : decode cX9_limp 11 = .ok (.ifCond .ge 6, 3) := by decide +kernel
theorem dX9_limp_14 : decode cX9_limp 14 = .ok (.iload 4, 2) := by decide +kernel
theorem dX9_limp_16 : decode cX9_limp 16 = .ok (.ireturn, 1) := by decide +kernel
theorem dX9_limp_17 : decode cX9_limp 17 = .ok (.bipush (-9), 2) := by decide +kernel
theorem dX9_limp_19 : decode cX9_limp 19 = .ok (.istore 5, 2) := by decide +kernel
theorem dX9_limp_21 : decode cX9_limp 21 = .ok (.iconst 0, 1) := by decide +kernel
theorem dX9_limp_22 : decode cX9_limp 22 = .ok (.istore 6, 2) := by decide +kernel
theorem dX9_limp_24 : decode cX9_limp 24 = .ok (.iconst 0, 1) := by decide +kernel
theorem dX9_limp_25 : decode cX9_limp 25 = .ok (.istore 7, 2) := by decide +kernel
theorem dX9_limp_27 : decode cX9_limp 27 = .ok (.iload 7, 2) := by decide +kernel
theorem dX9_limp_29 : decode cX9_limp 29 = .ok (.sipush 1000, 3) := by decide +kernel
theorem dX9_limp_32 : decode cX9_limp 32 = .ok (.if_icmp .ge 48, 3) := by decide +kernel
theorem dX9_limp_35 : decode cX9_limp 35 = .ok (.aload_n 0, 1) := by decide +kernel
theorem dX9_limp_36 : decode cX9_limp 36 = .ok (.iload_n 3, 1) := by decide +kernel
theorem dX9_limp_37 : decode cX9_limp 37 = .ok (.iload 7, 2) := by decide +kernel
theorem dX9_limp_39 : decode cX9_limp 39 = .ok (.bipush 10, 2) := by decide +kernel
theorem dX9_limp_41 : decode cX9_limp 41 = .ok (.idiv, 1) := by decide +kernel
theorem dX9_limp_42 : decode cX9_limp 42 = .ok (.iload 7, 2) := by decide +kernel
theorem dX9_limp_44 : decode cX9_limp 44 = .ok (.bipush 10, 2) := by decide +kernel
theorem dX9_limp_46 : decode cX9_limp 46 = .ok (.irem, 1) := by decide +kernel
theorem dX9_limp_47 : decode cX9_limp 47 = .ok (.invokevirtual 255, 3) := by decide +kernel
theorem dX9_limp_50 : decode cX9_limp 50 = .ok (.istore 8, 2) := by decide +kernel
theorem dX9_limp_52 : decode cX9_limp 52 = .ok (.iload 5, 2) := by decide +kernel
theorem dX9_limp_54 : decode cX9_limp 54 = .ok (.bipush (-9), 2) := by decide +kernel
theorem dX9_limp_56 : decode cX9_limp 56 = .ok (.if_icmp .eq 10, 3) := by decide +kernel
theorem dX9_limp_59 : decode cX9_limp 59 = .ok (.iload 8, 2) := by decide +kernel
theorem dX9_limp_61 : decode cX9_limp 61 = .ok (.iload 6, 2) := by decide +kernel
theorem dX9_limp_63 : decode cX9_limp 63 = .ok (.if_icmp .ge 11, 3) := by decide +kernel
theorem dX9_limp_66 : decode cX9_limp 66 = .ok (.iload 7, 2) := by decide +kernel
theorem dX9_limp_68 : decode cX9_limp 68 = .ok (.istore 5, 2) := by decide +kernel
theorem dX9_limp_70 : decode cX9_limp 70 = .ok (.iload 8, 2) := by decide +kernel
theorem dX9_limp_72 : decode cX9_limp 72 = .ok (.istore 6, 2) := by decide +kernel
theorem dX9_limp_74 : decode cX9_limp 74 = .ok (.iinc 7 1, 3) := by decide +kernel
theorem dX9_limp_77 : decode cX9_limp 77 = .ok (.goto (-50), 3) := by decide +kernel
theorem dX9_limp_80 : decode cX9_limp 80 = .ok (.aload_n 0, 1) := by decide +kernel
theorem dX9_limp_81 : decode cX9_limp 81 = .ok (.iload 6, 2) := by decide +kernel
theorem dX9_limp_83 : decode cX9_limp 83 = .ok (.iload 5, 2) := by decide +kernel
theorem dX9_limp_85 : decode cX9_limp 85 = .ok (.invokevirtual 102, 3) := by decide +kernel
theorem dX9_limp_88 : decode cX9_limp 88 = .ok (.ireturn, 1) := by decide +kernel
theorem dX9_odds_0 : decode cX9_odds 0 = .ok (.aload_n 0, 1) := by decide +kernel
theorem dX9_odds_1 : decode cX9_odds 1 = .ok (.iload_n 1, 1) := by decide +kernel
theorem dX9_odds_2 : decode cX9_odds 2 = .ok (.iload_n 2, 1) := by decide +kernel
theorem dX9_odds_3 : decode cX9_odds 3 = .ok (.iload_n 3, 1) := by decide +kernel
theorem dX9_odds_4 : decode cX9_odds 4 = .ok (.invokevirtual 251, 3) := by decide +kernel
theorem dX9_odds_7 : decode cX9_odds 7 = .ok (.istore 4, 2) := by decide +kernel
theorem dX9_odds_9 : decode cX9_odds 9 = .ok (.iload 4, 2) := by decide +kernel
theorem dX9_odds_11 : decode cX9_odds 11 = .ok (.ifCond .ge 6, 3) := by decide +kernel
theorem dX9_odds_14 : decode cX9_odds 14 = .ok (.iload 4, 2) := by decide +kernel
theorem dX9_odds_16 : decode cX9_odds 16 = .ok (.ireturn, 1) := by decide +kernel
theorem dX9_odds_17 : decode cX9_odds 17 = .ok (.bipush (-9), 2) := by decide +kernel
theorem dX9_odds_19 : decode cX9_odds 19 = .ok (.istore 5, 2) := by decide +kernel
theorem dX9_odds_21 : decode cX9_odds 21 = .ok (.iconst 0, 1) := by decide +kernel
theorem dX9_odds_22 : decode cX9_odds 22 = .ok (.istore 6, 2) := by decide +kernel
theorem dX9_odds_24 : decode cX9_odds 24 = .ok (.iconst 0, 1) := by decide +kernel
theorem dX9_odds_25 : decode cX9_odds 25 = .ok (.istore 7, 2) := by decide +kernel
theorem dX9_odds_27 : decode cX9_odds 27 = .ok (.iconst 0, 1) := by decide +kernel
theorem dX9_odds_28 : decode cX9_odds 28 = .ok (.istore 8, 2) := by decide +kernel
theorem dX9_odds_30 : decode cX9_odds 30 = .ok (.iload 8, 2) := by decide +kernel
theorem dX9_odds_32 : decode cX9_odds 32 = .ok (.sipush 1000, 3) := by decide +kernel
theorem dX9_odds_35 : decode cX9_odds 35 = .ok (.if_icmp .ge 92, 3) := by decide +kernel
theorem dX9_odds_38 : decode cX9_odds 38 = .ok (.aload_n 0, 1) := by decide +kernel
theorem dX9_odds_39 : decode cX9_odds 39 = .ok (.iload_n 3, 1) := by decide +kernel
theorem dX9_odds_40 : decode cX9_odds 40 = .ok (.iload 8, 2) := by decide +kernel
theorem dX9_odds_42 : decode cX9_odds 42 = .ok (.bipush 10, 2) := by decide +kernel
theorem dX9_odds_44 : decode cX9_odds 44 = .ok (.idiv, 1) := by decide +kernel
theorem dX9_odds_45 : decode cX9_odds 45 = .ok (.iload 8, 2) := by decide +kernel
theorem dX9_odds_47 : decode cX9_odds 47 = .ok (.bipush 10, 2) := by decide +kernel
theorem dX9_odds_49 : decode cX9_odds 49 = .ok (.irem, 1) := by decide +kernel
theorem dX9_odds_50 : decode cX9_odds 50 = .ok (.invokevirtual 255, 3) := by decide +kernel
theorem dX9_odds_53 : decode cX9_odds 53 = .ok (.istore 9, 2) := by decide +kernel
theorem dX9_odds_55 : decode cX9_odds 55 = .ok (.iload 5, 2) := by decide +kernel
theorem dX9_odds_57 : decode cX9_odds 57 = .ok (.bipush (-9), 2) := by decide +kernel
theorem dX9_odds_59 : decode cX9_odds 59 = .ok (.if_icmp .eq 10, 3) := by decide +kernel
theorem dX9_odds_62 : decode cX9_odds 62 = .ok (.iload 9, 2) := by decide +kernel
theorem dX9_odds_64 : decode cX9_odds 64 = .ok (.iload 5, 2) := by decide +kernel
theorem dX9_odds_66 : decode cX9_odds 66 = .ok (.if_icmp .ge 13, 3) := by decide +kernel
theorem dX9_odds_69 : decode cX9_odds 69 = .ok (.iload 9, 2) := by decide +kernel
theorem dX9_odds_71 : decode cX9_odds 71 = .ok (.istore 5, 2) := by decide +kernel
theorem dX9_odds_73 : decode cX9_odds 73 = .ok (.iconst 0, 1) := by decide +kernel
theorem dX9_odds_74 : decode cX9_odds 74 = .ok (.istore 6, 2) := by decide +kernel
theorem dX9_odds_76 : decode cX9_odds 76 = .ok (.iconst 0, 1) := by decide +kernel
theorem dX9_odds_77 : decode cX9_odds 77 = .ok (.istore 7, 2) := by decide +kernel
theorem dX9_odds_79 : decode cX9_odds 79 = .ok (.iload 6, 2) := by decide +kernel
theorem dX9_odds_81 : decode cX9_odds 81 = .ok (.iload 9, 2) := by decide +kernel
theorem dX9_odds_83 : decode cX9_odds 83 = .ok (.iload 5, 2) := by decide +kernel
theorem dX9_odds_85 : decode cX9_odds 85 = .ok (.if_icmp .ne 7, 3) := by decide +kernel
theorem dX9_odds_88 : decode cX9_odds 88 = .ok (.iconst 1, 1) := by decide +kernel
theorem dX9_odds_89 : decode cX9_odds 89 = .ok (.goto 4, 3) := by decide +kernel
theorem dX9_odds_92 : decode cX9_odds 92 = .ok (.iconst 0, 1) := by decide +kernel
theorem dX9_odds_93 : decode cX9_odds 93 = .ok (.iadd, 1) := by decide +kernel
theorem dX9_odds_94 : decode cX9_odds 94 = .ok (.istore 6, 2) := by decide +kernel
theorem dX9_odds_96 : decode cX9_odds 96 = .ok (.iload 7, 2) := by decide +kernel
theorem dX9_odds_98 : decode cX9_odds 98 = .ok (.iload 9, 2) := by decide +kernel
theorem dX9_odds_100 : decode cX9_odds 100 = .ok (.iload 5, 2) := by decide +kernel
theorem dX9_odds_102 : decode cX9_odds 102 = .ok (.if_icmp .ne 15, 3) := by decide +kernel
theorem dX9_odds_105 : decode cX9_odds 105 = .ok (.iload 8, 2) := by decide +kernel
theorem dX9_odds_107 : decode cX9_odds 107 = .ok (.bipush 10, 2) := by decide +kernel
theorem dX9_odds_109 : decode cX9_odds 109 = .ok (.irem, 1) := by decide +kernel
theorem dX9_odds_110 : decode cX9_odds 110 = .ok (.ifCond .le 7, 3) := by decide +kernel
theorem dX9_odds_113 : decode cX9_odds 113 = .ok (.iconst 1, 1) := by decide +kernel
theorem dX9_odds_114 : decode cX9_odds 114 = .ok (.goto 4, 3) := by decide +kernel
theorem dX9_odds_117 : decode cX9_odds 117 = .ok (.iconst 0, 1) := by decide +kernel
theorem dX9_odds_118 : decode cX9_odds 118 = .ok (.iadd, 1) := by decide +kernel
theorem dX9_odds_119 : decode cX9_odds 119 = .ok (.istore 7, 2) := by decide +kernel
theorem dX9_odds_121 : decode cX9_odds 121 = .ok (.iinc 8 1, 3) := by decide +kernel
theorem dX9_odds_124 : decode cX9_odds 124 = .ok (.goto (-94), 3) := by decide +kernel
theorem dX9_odds_127 : decode cX9_odds 127 = .ok (.aload_n 0, 1) := by decide +kernel
theorem dX9_odds_128 : decode cX9_odds 128 = .ok (.iload 7, 2) := by decide +kernel
theorem dX9_odds_130 : decode cX9_odds 130 = .ok (.i2l, 1) := by decide +kernel
theorem dX9_odds_131 : decode cX9_odds 131 = .ok (.iload 6, 2) := by decide +kernel
theorem dX9_odds_133 : decode cX9_odds 133 = .ok (.i2l, 1) := by decide +kernel
theorem dX9_odds_134 : decode cX9_odds 134 = .ok (.iload 6, 2) := by decide +kernel
theorem dX9_odds_136 : decode cX9_odds 136 = .ok (.invokevirtual 258, 3) := by decide +kernel
theorem dX9_odds_139 : decode cX9_odds 139 = .ok (.ireturn, 1) := by decide +kernel
theorem dX9_part_0 : decode cX9_part 0 = .ok (.aload_n 0, 1) := by decide +kernel
theorem dX9_part_1 : decode cX9_part 1 = .ok (.iload 4, 2) := by decide +kernel
theorem dX9_part_3 : decode cX9_part 3 = .ok (.iconst 0, 1) := by decide +kernel
theorem dX9_part_4 : decode cX9_part 4 = .ok (.iconst 3, 1) := by decide +kernel
theorem dX9_part_5 : decode cX9_part 5 = .ok (.invokestatic 80, 3) := by decide +kernel
theorem dX9_part_8 : decode cX9_part 8 = .ok (.iload_n 1, 1) := by decide +kernel
theorem dX9_part_9 : decode cX9_part 9 = .ok (.iload_n 2, 1) := by decide +kernel
theorem dX9_part_10 : decode cX9_part 10 = .ok (.iconst 0, 1) := by decide +kernel
theorem dX9_part_11 : decode cX9_part 11 = .ok (.iload_n 3, 1) := by decide +kernel
theorem dX9_part_12 : decode cX9_part 12 = .ok (.invokevirtual 238, 3) := by decide +kernel
theorem dX9_part_15 : decode cX9_part 15 = .ok (.istore 5, 2) := by decide +kernel
theorem dX9_part_17 : decode cX9_part 17 = .ok (.iload 5, 2) := by decide +kernel
theorem dX9_part_19 : decode cX9_part 19 = .ok (.ifCond .ge 6, 3) := by decide +kernel
theorem dX9_part_22 : decode cX9_part 22 = .ok (.iload 5, 2) := by decide +kernel
theorem dX9_part_24 : decode cX9_part 24 = .ok (.ireturn, 1) := by decide +kernel
theorem dX9_part_25 : decode cX9_part 25 = .ok (.aload_n 0, 1) := by decide +kernel
theorem dX9_part_26 : decode cX9_part 26 = .ok (.iload_n 3, 1) := by decide +kernel
theorem dX9_part_27 : decode cX9_part 27 = .ok (.invokevirtual 248, 3) := by decide +kernel
theorem dX9_part_30 : decode cX9_part 30 = .ok (.istore 6, 2) := by decide +kernel
theorem dX9_part_32 : decode cX9_part 32 = .ok (.aload_n 0, 1) := by decide +kernel
theorem dX9_part_33 : decode cX9_part 33 = .ok (.getfield 48, 3) := by decide +kernel
theorem dX9_part_36 : decode cX9_part 36 = .ok (.iload 4, 2) := by decide +kernel
theorem dX9_part_38 : decode cX9_part 38 = .ok (.iconst 1, 1) := by decide +kernel
theorem dX9_part_39 : decode cX9_part 39 = .ok (.iastore, 1) := by decide +kernel
theorem dX9_part_40 : decode cX9_part 40 = .ok (.aload_n 0, 1) := by decide +kernel
theorem dX9_part_41 : decode cX9_part 41 = .ok (.iload_n 3, 1) := by decide +kernel
theorem dX9_part_42 : decode cX9_part 42 = .ok (.invokevirtual 248, 3) := by decide +kernel
theorem dX9_part_45 : decode cX9_part 45 = .ok (.istore 7, 2) := by decide +kernel
theorem dX9_part_47 : decode cX9_part 47 = .ok (.aload_n 0, 1) := by decide +kernel
theorem dX9_part_48 : decode cX9_part 48 = .ok (.iload 7, 2) := by decide +kernel
theorem dX9_part_50 : decode cX9_part 50 = .ok (.bipush 100, 2) := by decide +kernel
theorem dX9_part_52 : decode cX9_part 52 = .ok (.iload 6, 2) := by decide +kernel
theorem dX9_part_54 : decode cX9_part 54 = .ok (.iadd, 1) := by decide +kernel
theorem dX9_part_55 : decode cX9_part 55 = .ok (.iload 7, 2) := by decide +kernel
theorem dX9_part_57 : decode cX9_part 57 = .ok (.isub, 1) := by decide +kernel
theorem dX9_part_58 : decode cX9_part 58 = .ok (.invokevirtual 102, 3) := by decide +kernel
theorem dX9_part_61 : decode cX9_part 61 = .ok (.ireturn, 1) := by decide +kernel
theorem dX9_made_0 : decode cX9_made 0 = .ok (.aload_n 0, 1) := by decide +kernel
theorem dX9_made_1 : decode cX9_made 1 = .ok (.iconst 1, 1) := by decide +kernel
theorem dX9_made_2 : decode cX9_made 2 = .ok (.iload_n 1, 1) := by decide +kernel
theorem dX9_made_3 : decode cX9_made 3 = .ok (.iload_n 2, 1) := by decide +kernel
theorem dX9_made_4 : decode cX9_made 4 = .ok (.iload_n 3, 1) := by decide +kernel
theorem dX9_made_5 : decode cX9_made 5 = .ok (.iload 4, 2) := by decide +kernel
theorem dX9_made_7 : decode cX9_made 7 = .ok (.invokevirtual 238, 3) := by decide +kernel
theorem dX9_made_10 : decode cX9_made 10 = .ok (.istore 5, 2) := by decide +kernel
theorem dX9_made_12 : decode cX9_made 12 = .ok (.iload 5, 2) := by decide +kernel
theorem dX9_made_14 : decode cX9_made 14 = .ok (.ifCond .ge 6, 3) := by decide +kernel
theorem dX9_made_17 : decode cX9_made 17 = .ok (.iload 5, 2) := by decide +kernel
theorem dX9_made_19 : decode cX9_made 19 = .ok (.ireturn, 1) := by decide +kernel
theorem dX9_made_20 : decode cX9_made 20 = .ok (.iconst 0, 1) := by decide +kernel
theorem dX9_made_21 : decode cX9_made 21 = .ok (.istore 6, 2) := by decide +kernel
theorem dX9_made_23 : decode cX9_made 23 = .ok (.iconst 0, 1) := by decide +kernel
theorem dX9_made_24 : decode cX9_made 24 = .ok (.istore 7, 2) := by decide +kernel
theorem dX9_made_26 : decode cX9_made 26 = .ok (.iconst 0, 1) := by decide +kernel
theorem dX9_made_27 : decode cX9_made 27 = .ok (.istore 8, 2) := by decide +kernel
theorem dX9_made_29 : decode cX9_made 29 = .ok (.iload 8, 2) := by decide +kernel
theorem dX9_made_31 : decode cX9_made 31 = .ok (.bipush 27, 2) := by decide +kernel
theorem dX9_made_33 : decode cX9_made 33 = .ok (.if_icmp .ge 131, 3) := by decide +kernel
theorem dX9_made_36 : decode cX9_made 36 = .ok (.aload_n 0, 1) := by decide +kernel
theorem dX9_made_37 : decode cX9_made 37 = .ok (.iload_n 1, 1) := by decide +kernel
theorem dX9_made_38 : decode cX9_made 38 = .ok (.iload_n 2, 1) := by decide +kernel
theorem dX9_made_39 : decode cX9_made 39 = .ok (.iload_n 3, 1) := by decide +kernel
theorem dX9_made_40 : decode cX9_made 40 = .ok (.invokevirtual 234, 3) := by decide +kernel
theorem dX9_made_43 : decode cX9_made 43 = .ok (.aload_n 0, 1) := by decide +kernel
theorem dX9_made_44 : decode cX9_made 44 = .ok (.getfield 48, 3) := by decide +kernel
theorem dX9_made_47 : decode cX9_made 47 = .ok (.iconst 0, 1) := by decide +kernel
theorem dX9_made_48 : decode cX9_made 48 = .ok (.dup2, 1) := by decide +kernel
theorem dX9_made_49 : decode cX9_made 49 = .ok (.iaload, 1) := by decide +kernel
theorem dX9_made_50 : decode cX9_made 50 = .ok (.iload 8, 2) := by decide +kernel
theorem dX9_made_52 : decode cX9_made 52 = .ok (.bipush 9, 2) := by decide +kernel
theorem dX9_made_54 : decode cX9_made 54 = .ok (.idiv, 1) := by decide +kernel
theorem dX9_made_55 : decode cX9_made 55 = .ok (.iconst 1, 1) := by decide +kernel
theorem dX9_made_56 : decode cX9_made 56 = .ok (.isub, 1) := by decide +kernel
theorem dX9_made_57 : decode cX9_made 57 = .ok (.iadd, 1) := by decide +kernel
theorem dX9_made_58 : decode cX9_made 58 = .ok (.iastore, 1) := by decide +kernel
theorem dX9_made_59 : decode cX9_made 59 = .ok (.aload_n 0, 1) := by decide +kernel
theorem dX9_made_60 : decode cX9_made 60 = .ok (.getfield 48, 3) := by decide +kernel
theorem dX9_made_63 : decode cX9_made 63 = .ok (.iconst 1, 1) := by decide +kernel
theorem dX9_made_64 : decode cX9_made 64 = .ok (.dup2, 1) := by decide +kernel
theorem dX9_made_65 : decode cX9_made 65 = .ok (.iaload, 1) := by decide +kernel
theorem dX9_made_66 : decode cX9_made 66 = .ok (.iload 8, 2) := by decide +kernel
theorem dX9_made_68 : decode cX9_made 68 = .ok (.iconst 3, 1) := by decide +kernel
theorem dX9_made_69 : decode cX9_made 69 = .ok (.idiv, 1) := by decide +kernel
theorem dX9_made_70 : decode cX9_made 70 = .ok (.iconst 3, 1) := by decide +kernel
theorem dX9_made_71 : decode cX9_made 71 = .ok (.irem, 1) := by decide +kernel
theorem dX9_made_72 : decode cX9_made 72 = .ok (.iconst 1, 1) := by decide +kernel
theorem dX9_made_73 : decode cX9_made 73 = .ok (.isub, 1) := by decide +kernel
theorem dX9_made_74 : decode cX9_made 74 = .ok (.iadd, 1) := by decide +kernel
theorem dX9_made_75 : decode cX9_made 75 = .ok (.iastore, 1) := by decide +kernel
theorem dX9_made_76 : decode cX9_made 76 = .ok (.aload_n 0, 1) := by decide +kernel
theorem dX9_made_77 : decode cX9_made 77 = .ok (.getfield 48, 3) := by decide +kernel
theorem dX9_made_80 : decode cX9_made 80 = .ok (.iconst 2, 1) := by decide +kernel
theorem dX9_made_81 : decode cX9_made 81 = .ok (.dup2, 1) := by decide +kernel
theorem dX9_made_82 : decode cX9_made 82 = .ok (.iaload, 1) := by decide +kernel
theorem dX9_made_83 : decode cX9_made 83 = .ok (.iload 8, 2) := by decide +kernel
theorem dX9_made_85 : decode cX9_made 85 = .ok (.iconst 3, 1) := by decide +kernel
theorem dX9_made_86 : decode cX9_made 86 = .ok (.irem, 1) := by decide +kernel
theorem dX9_made_87 : decode cX9_made 87 = .ok (.iconst 1, 1) := by decide +kernel
theorem dX9_made_88 : decode cX9_made 88 = .ok (.isub, 1) := by decide +kernel
theorem dX9_made_89 : decode cX9_made 89 = .ok (.iadd, 1) := by decide +kernel
theorem dX9_made_90 : decode cX9_made 90 = .ok (.iastore, 1) := by decide +kernel
theorem dX9_made_91 : decode cX9_made 91 = .ok (.aload_n 0, 1) := by decide +kernel
theorem dX9_made_92 : decode cX9_made 92 = .ok (.getfield 48, 3) := by decide +kernel
theorem dX9_made_95 : decode cX9_made 95 = .ok (.iconst 0, 1) := by decide +kernel
theorem dX9_made_96 : decode cX9_made 96 = .ok (.iaload, 1) := by decide +kernel
theorem dX9_made_97 : decode cX9_made 97 = .ok (.iconst 1, 1) := by decide +kernel
theorem dX9_made_98 : decode cX9_made 98 = .ok (.bipush 9, 2) := by decide +kernel
theorem dX9_made_100 : decode cX9_made 100 = .ok (.invokestatic 80, 3) := by decide +kernel
theorem dX9_made_103 : decode cX9_made 103 = .ok (.ifCond .eq 55, 3) := by decide +kernel
theorem dX9_made_106 : decode cX9_made 106 = .ok (.aload_n 0, 1) := by decide +kernel
theorem dX9_made_107 : decode cX9_made 107 = .ok (.getfield 48, 3) := by decide +kernel
theorem dX9_made_110 : decode cX9_made 110 = .ok (.iconst 1, 1) := by decide +kernel
theorem dX9_made_111 : decode cX9_made 111 = .ok (.iaload, 1) := by decide +kernel
theorem dX9_made_112 : decode cX9_made 112 = .ok (.iconst 1, 1) := by decide +kernel
theorem dX9_made_113 : decode cX9_made 113 = .ok (.bipush 9, 2) := by decide +kernel
theorem dX9_made_115 : decode cX9_made 115 = .ok (.invokestatic 80, 3) := by decide +kernel
theorem dX9_made_118 : decode cX9_made 118 = .ok (.ifCond .eq 40, 3) := by decide +kernel
theorem dX9_made_121 : decode cX9_made 121 = .ok (.aload_n 0, 1) := by decide +kernel
theorem dX9_made_122 : decode cX9_made 122 = .ok (.getfield 48, 3) := by decide +kernel
theorem dX9_made_125 : decode cX9_made 125 = .ok (.iconst 2, 1) := by decide +kernel
theorem dX9_made_126 : decode cX9_made 126 = .ok (.iaload, 1) := by decide +kernel
theorem dX9_made_127 : decode cX9_made 127 = .ok (.iconst 1, 1) := by decide +kernel
theorem dX9_made_128 : decode cX9_made 128 = .ok (.bipush 9, 2) := by decide +kernel
theorem dX9_made_130 : decode cX9_made 130 = .ok (.invokestatic 80, 3) := by decide +kernel
theorem dX9_made_133 : decode cX9_made 133 = .ok (.ifCond .eq 25, 3) := by decide +kernel
theorem dX9_made_136 : decode cX9_made 136 = .ok (.iinc 6 1, 3) := by decide +kernel
theorem dX9_made_139 : decode cX9_made 139 = .ok (.iload 7, 2) := by decide +kernel
theorem dX9_made_141 : decode cX9_made 141 = .ok (.aload_n 0, 1) := by decide +kernel
theorem dX9_made_142 : decode cX9_made 142 = .ok (.iload 4, 2) := by decide +kernel
theorem dX9_made_144 : decode cX9_made 144 = .ok (.invokevirtual 245, 3) := by decide +kernel
theorem dX9_made_147 : decode cX9_made 147 = .ok (.ifCond .eq 7, 3) := by decide +kernel
theorem dX9_made_150 : decode cX9_made 150 = .ok (.iconst 1, 1) := by decide +kernel
theorem dX9_made_151 : decode cX9_made 151 = .ok (.goto 4, 3) := by decide +kernel
theorem dX9_made_154 : decode cX9_made 154 = .ok (.iconst 0, 1) := by decide +kernel
theorem dX9_made_155 : decode cX9_made 155 = .ok (.iadd, 1) := by decide +kernel
theorem dX9_made_156 : decode cX9_made 156 = .ok (.istore 7, 2) := by decide +kernel
theorem dX9_made_158 : decode cX9_made 158 = .ok (.iinc 8 1, 3) := by decide +kernel
theorem dX9_made_161 : decode cX9_made 161 = .ok (.goto (-132), 3) := by decide +kernel
theorem dX9_made_164 : decode cX9_made 164 = .ok (.aload_n 0, 1) := by decide +kernel
theorem dX9_made_165 : decode cX9_made 165 = .ok (.iload 7, 2) := by decide +kernel
theorem dX9_made_167 : decode cX9_made 167 = .ok (.i2l, 1) := by decide +kernel
theorem dX9_made_168 : decode cX9_made 168 = .ok (.iload 6, 2) := by decide +kernel
theorem dX9_made_170 : decode cX9_made 170 = .ok (.i2l, 1) := by decide +kernel
theorem dX9_made_171 : decode cX9_made 171 = .ok (.iload 6, 2) := by decide +kernel
theorem dX9_made_173 : decode cX9_made 173 = .ok (.invokevirtual 258, 3) := by decide +kernel
theorem dX9_made_176 : decode cX9_made 176 = .ok (.ireturn, 1) := by decide +kernel
theorem dX9_would_0 : decode cX9_would 0 = .ok (.aload_n 0, 1) := by decide +kernel
theorem dX9_would_1 : decode cX9_would 1 = .ok (.iconst 1, 1) := by decide +kernel
theorem dX9_would_2 : decode cX9_would 2 = .ok (.iload_n 1, 1) := by decide +kernel
theorem dX9_would_3 : decode cX9_would 3 = .ok (.iload_n 2, 1) := by decide +kernel
theorem dX9_would_4 : decode cX9_would 4 = .ok (.iload_n 3, 1) := by decide +kernel
theorem dX9_would_5 : decode cX9_would 5 = .ok (.iload 4, 2) := by decide +kernel
theorem dX9_would_7 : decode cX9_would 7 = .ok (.invokevirtual 238, 3) := by decide +kernel
theorem dX9_would_10 : decode cX9_would 10 = .ok (.istore 5, 2) := by decide +kernel
theorem dX9_would_12 : decode cX9_would 12 = .ok (.iload 5, 2) := by decide +kernel
theorem dX9_would_14 : decode cX9_would 14 = .ok (.ifCond .ge 6, 3) := by decide +kernel
theorem dX9_would_17 : decode cX9_would 17 = .ok (.iload 5, 2) := by decide +kernel
theorem dX9_would_19 : decode cX9_would 19 = .ok (.ireturn, 1) := by decide +kernel
theorem dX9_would_20 : decode cX9_would 20 = .ok (.aload_n 0, 1) := by decide +kernel
theorem dX9_would_21 : decode cX9_would 21 = .ok (.getfield 33, 3) := by decide +kernel
theorem dX9_would_24 : decode cX9_would 24 = .ok (.bipush 7, 2) := by decide +kernel
theorem dX9_would_26 : decode cX9_would 26 = .ok (.iload_n 1, 1) := by decide +kernel
theorem dX9_would_27 : decode cX9_would 27 = .ok (.imul, 1) := by decide +kernel
theorem dX9_would_28 : decode cX9_would 28 = .ok (.bipush 6, 2) := by decide +kernel
theorem dX9_would_30 : decode cX9_would 30 = .ok (.iadd, 1) := by decide +kernel
theorem dX9_would_31 : decode cX9_would 31 = .ok (.iaload, 1) := by decide +kernel
theorem dX9_would_32 : decode cX9_would 32 = .ok (.istore 6, 2) := by decide +kernel
theorem dX9_would_34 : decode cX9_would 34 = .ok (.iload 6, 2) := by decide +kernel
theorem dX9_would_36 : decode cX9_would 36 = .ok (.invokestatic 142, 3) := by decide +kernel
theorem dX9_would_39 : decode cX9_would 39 = .ok (.iconst 3, 1) := by decide +kernel
theorem dX9_would_40 : decode cX9_would 40 = .ok (.if_icmp .le 6, 3) := by decide +kernel
theorem dX9_would_43 : decode cX9_would 43 = .ok (.bipush (-6), 2) := by decide +kernel
theorem dX9_would_45 : decode cX9_would 45 = .ok (.ireturn, 1) := by decide +kernel
theorem dX9_would_46 : decode cX9_would 46 = .ok (.iconst 1, 1) := by decide +kernel
theorem dX9_would_47 : decode cX9_would 47 = .ok (.istore 7, 2) := by decide +kernel
theorem dX9_would_49 : decode cX9_would 49 = .ok (.iconst 0, 1) := by decide +kernel
theorem dX9_would_50 : decode cX9_would 50 = .ok (.istore 8, 2) := by decide +kernel
theorem dX9_would_52 : decode cX9_would 52 = .ok (.iload 8, 2) := by decide +kernel
theorem dX9_would_54 : decode cX9_would 54 = .ok (.iload 6, 2) := by decide +kernel
theorem dX9_would_56 : decode cX9_would 56 = .ok (.invokestatic 142, 3) := by decide +kernel
theorem dX9_would_59 : decode cX9_would 59 = .ok (.if_icmp .ge 16, 3) := by decide +kernel
theorem dX9_would_62 : decode cX9_would 62 = .ok (.iload 7, 2) := by decide +kernel
theorem dX9_would_64 : decode cX9_would 64 = .ok (.bipush 9, 2) := by decide +kernel
theorem dX9_would_66 : decode cX9_would 66 = .ok (.imul, 1) := by decide +kernel
theorem dX9_would_67 : decode cX9_would 67 = .ok (.istore 7, 2) := by decide +kernel
theorem dX9_would_69 : decode cX9_would 69 = .ok (.iinc 8 1, 3) := by decide +kernel
theorem dX9_would_72 : decode cX9_would 72 = .ok (.goto (-20), 3) := by decide +kernel
theorem dX9_would_75 : decode cX9_would 75 = .ok (.iconst 0, 1) := by decide +kernel
theorem dX9_would_76 : decode cX9_would 76 = .ok (.istore 8, 2) := by decide +kernel
theorem dX9_would_78 : decode cX9_would 78 = .ok (.bipush (-9), 2) := by decide +kernel
theorem dX9_would_80 : decode cX9_would 80 = .ok (.istore 9, 2) := by decide +kernel
theorem dX9_would_82 : decode cX9_would 82 = .ok (.iconst 0, 1) := by decide +kernel
theorem dX9_would_83 : decode cX9_would 83 = .ok (.istore 10, 2) := by decide +kernel
theorem dX9_would_85 : decode cX9_would 85 = .ok (.iload 10, 2) := by decide +kernel
theorem dX9_would_87 : decode cX9_would 87 = .ok (.iload 7, 2) := by decide +kernel
theorem dX9_would_89 : decode cX9_would 89 = .ok (.if_icmp .ge 120, 3) := by decide +kernel
theorem dX9_would_92 : decode cX9_would 92 = .ok (.iload 10, 2) := by decide +kernel
theorem dX9_would_94 : decode cX9_would 94 = .ok (.istore 11, 2) := by decide +kernel
theorem dX9_would_96 : decode cX9_would 96 = .ok (.iconst 3, 1) := by decide +kernel
theorem dX9_would_97 : decode cX9_would 97 = .ok (.istore 12, 2) := by decide +kernel
theorem dX9_would_99 : decode cX9_would 99 = .ok (.iload 12, 2) := by decide +kernel
theorem dX9_would_101 : decode cX9_would 101 = .ok (.ifCond .lt 41, 3) := by decide +kernel
theorem dX9_would_104 : decode cX9_would 104 = .ok (.iload 6, 2) := by decide +kernel
theorem dX9_would_106 : decode cX9_would 106 = .ok (.iload 12, 2) := by decide +kernel
theorem dX9_would_108 : decode cX9_would 108 = .ok (.ishr, 1) := by decide +kernel
theorem dX9_would_109 : decode cX9_would 109 = .ok (.iconst 1, 1) := by decide +kernel
theorem dX9_would_110 : decode cX9_would 110 = .ok (.iand, 1) := by decide +kernel
theorem dX9_would_111 : decode cX9_would 111 = .ok (.iconst 1, 1) := by decide +kernel
theorem dX9_would_112 : decode cX9_would 112 = .ok (.if_icmp .ne 24, 3) := by decide +kernel
theorem dX9_would_115 : decode cX9_would 115 = .ok (.aload_n 0, 1) := by decide +kernel
theorem dX9_would_116 : decode cX9_would 116 = .ok (.getfield 48, 3) := by decide +kernel
theorem dX9_would_119 : decode cX9_would 119 = .ok (.iload 12, 2) := by decide +kernel
theorem dX9_would_121 : decode cX9_would 121 = .ok (.iconst 1, 1) := by decide +kernel
theorem dX9_would_122 : decode cX9_would 122 = .ok (.iload 11, 2) := by decide +kernel
theorem dX9_would_124 : decode cX9_would 124 = .ok (.bipush 9, 2) := by decide +kernel
theorem dX9_would_126 : decode cX9_would 126 = .ok (.irem, 1) := by decide +kernel
theorem dX9_would_127 : decode cX9_would 127 = .ok (.iadd, 1) := by decide +kernel
theorem dX9_would_128 : decode cX9_would 128 = .ok (.iastore, 1) := by decide +kernel
theorem dX9_would_129 : decode cX9_would 129 = .ok (.iload 11, 2) := by decide +kernel
theorem dX9_would_131 : decode cX9_would 131 = .ok (.bipush 9, 2) := by decide +kernel
theorem dX9_would_133 : decode cX9_would 133 = .ok (.idiv, 1) := by decide +kernel
theorem dX9_would_134 : decode cX9_would 134 = .ok (.istore 11, 2) := by decide +kernel
theorem dX9_would_136 : decode cX9_would 136 = .ok (.iinc 12 (-1), 3) := by decide +kernel
theorem dX9_would_139 : decode cX9_would 139 = .ok (.goto (-40), 3) := by decide +kernel
theorem dX9_would_142 : decode cX9_would 142 = .ok (.aload_n 0, 1) := by decide +kernel
theorem dX9_would_143 : decode cX9_would 143 = .ok (.iload 4, 2) := by decide +kernel
theorem dX9_would_145 : decode cX9_would 145 = .ok (.invokevirtual 245, 3) := by decide +kernel
theorem dX9_would_148 : decode cX9_would 148 = .ok (.ifCond .eq 55, 3) := by decide +kernel
theorem dX9_would_151 : decode cX9_would 151 = .ok (.iload 8, 2) := by decide +kernel
theorem dX9_would_153 : decode cX9_would 153 = .ok (.ifCond .ne 43, 3) := by decide +kernel
theorem dX9_would_156 : decode cX9_would 156 = .ok (.sipush 1000, 3) := by decide +kernel
theorem dX9_would_159 : decode cX9_would 159 = .ok (.aload_n 0, 1) := by decide +kernel
theorem dX9_would_160 : decode cX9_would 160 = .ok (.getfield 48, 3) := by decide +kernel
theorem dX9_would_163 : decode cX9_would 163 = .ok (.iconst 0, 1) := by decide +kernel
theorem dX9_would_164 : decode cX9_would 164 = .ok (.iaload, 1) := by decide +kernel
theorem dX9_would_165 : decode cX9_would 165 = .ok (.imul, 1) := by decide +kernel
theorem dX9_would_166 : decode cX9_would 166 = .ok (.bipush 100, 2) := by decide +kernel
theorem dX9_would_168 : decode cX9_would 168 = .ok (.aload_n 0, 1) := by decide +kernel
theorem dX9_would_169 : decode cX9_would 169 = .ok (.getfield 48, 3) := by decide +kernel
theorem dX9_would_172 : decode cX9_would 172 = .ok (.iconst 1, 1) := by decide +kernel
theorem dX9_would_173 : decode cX9_would 173 = .ok (.iaload, 1) := by decide +kernel
theorem dX9_would_174 : decode cX9_would 174 = .ok (.imul, 1) := by decide +kernel
theorem dX9_would_175 : decode cX9_would 175 = .ok (.iadd, 1) := by decide +kernel
theorem dX9_would_176 : decode cX9_would 176 = .ok (.bipush 10, 2) := by decide +kernel
theorem dX9_would_178 : decode cX9_would 178 = .ok (.aload_n 0, 1) := by decide +kernel
theorem dX9_would_179 : decode cX9_would 179 = .ok (.getfield 48, 3) := by decide +kernel
theorem dX9_would_182 : decode cX9_would 182 = .ok (.iconst 2, 1) := by decide +kernel
theorem dX9_would_183 : decode cX9_would 183 = .ok (.iaload, 1) := by decide +kernel
theorem dX9_would_184 : decode cX9_would 184 = .ok (.imul, 1) := by decide +kernel
theorem dX9_would_185 : decode cX9_would 185 = .ok (.iadd, 1) := by decide +kernel
theorem dX9_would_186 : decode cX9_would 186 = .ok (.aload_n 0, 1) := by decide +kernel
theorem dX9_would_187 : decode cX9_would 187 = .ok (.getfield 48, 3) := by decide +kernel
theorem dX9_would_190 : decode cX9_would 190 = .ok (.iconst 3, 1) := by decide +kernel
theorem dX9_would_191 : decode cX9_would 191 = .ok (.iaload, 1) := by decide +kernel
theorem dX9_would_192 : decode cX9_would 192 = .ok (.iadd, 1) := by decide +kernel
theorem dX9_would_193 : decode cX9_would 193 = .ok (.goto 5, 3) := by decide +kernel
theorem dX9_would_196 : decode cX9_would 196 = .ok (.iload 9, 2) := by decide +kernel
theorem dX9_would_198 : decode cX9_would 198 = .ok (.istore 9, 2) := by decide +kernel
theorem dX9_would_200 : decode cX9_would 200 = .ok (.iinc 8 1, 3) := by decide +kernel
theorem dX9_would_203 : decode cX9_would 203 = .ok (.iinc 10 1, 3) := by decide +kernel
theorem dX9_would_206 : decode cX9_would 206 = .ok (.goto (-121), 3) := by decide +kernel
theorem dX9_would_209 : decode cX9_would 209 = .ok (.aload_n 0, 1) := by decide +kernel
theorem dX9_would_210 : decode cX9_would 210 = .ok (.iload 9, 2) := by decide +kernel
theorem dX9_would_212 : decode cX9_would 212 = .ok (.iload 8, 2) := by decide +kernel
theorem dX9_would_214 : decode cX9_would 214 = .ok (.invokevirtual 102, 3) := by decide +kernel
theorem dX9_would_217 : decode cX9_would 217 = .ok (.ireturn, 1) := by decide +kernel
theorem dX9_yard_0 : decode cX9_yard 0 = .ok (.aload_n 0, 1) := by decide +kernel
theorem dX9_yard_1 : decode cX9_yard 1 = .ok (.iload 5, 2) := by decide +kernel
theorem dX9_yard_3 : decode cX9_yard 3 = .ok (.iconst 1, 1) := by decide +kernel
theorem dX9_yard_4 : decode cX9_yard 4 = .ok (.sipush 2000, 3) := by decide +kernel
theorem dX9_yard_7 : decode cX9_yard 7 = .ok (.invokestatic 80, 3) := by decide +kernel
theorem dX9_yard_10 : decode cX9_yard 10 = .ok (.iload_n 1, 1) := by decide +kernel
theorem dX9_yard_11 : decode cX9_yard 11 = .ok (.iload_n 2, 1) := by decide +kernel
theorem dX9_yard_12 : decode cX9_yard 12 = .ok (.iload_n 3, 1) := by decide +kernel
theorem dX9_yard_13 : decode cX9_yard 13 = .ok (.iload 4, 2) := by decide +kernel
theorem dX9_yard_15 : decode cX9_yard 15 = .ok (.invokevirtual 238, 3) := by decide +kernel
theorem dX9_yard_18 : decode cX9_yard 18 = .ok (.istore 6, 2) := by decide +kernel
theorem dX9_yard_20 : decode cX9_yard 20 = .ok (.iload 6, 2) := by decide +kernel
theorem dX9_yard_22 : decode cX9_yard 22 = .ok (.ifCond .ge 6, 3) := by decide +kernel
theorem dX9_yard_25 : decode cX9_yard 25 = .ok (.iload 6, 2) := by decide +kernel
theorem dX9_yard_27 : decode cX9_yard 27 = .ok (.ireturn, 1) := by decide +kernel
theorem dX9_yard_28 : decode cX9_yard 28 = .ok (.aload_n 0, 1) := by decide +kernel
theorem dX9_yard_29 : decode cX9_yard 29 = .ok (.iload 4, 2) := by decide +kernel
theorem dX9_yard_31 : decode cX9_yard 31 = .ok (.iconst 0, 1) := by decide +kernel
theorem dX9_yard_32 : decode cX9_yard 32 = .ok (.invokevirtual 183, 3) := by decide +kernel
theorem dX9_yard_35 : decode cX9_yard 35 = .ok (.iconst 0, 1) := by decide +kernel
theorem dX9_yard_36 : decode cX9_yard 36 = .ok (.istore 7, 2) := by decide +kernel
theorem dX9_yard_38 : decode cX9_yard 38 = .ok (.iload 7, 2) := by decide +kernel
theorem dX9_yard_40 : decode cX9_yard 40 = .ok (.sipush 400, 3) := by decide +kernel
theorem dX9_yard_43 : decode cX9_yard 43 = .ok (.if_icmp .ge 44, 3) := by decide +kernel
theorem dX9_yard_46 : decode cX9_yard 46 = .ok (.aload_n 0, 1) := by decide +kernel
theorem dX9_yard_47 : decode cX9_yard 47 = .ok (.getfield 160, 3) := by decide +kernel
theorem dX9_yard_50 : decode cX9_yard 50 = .ok (.ifCond .ne 37, 3) := by decide +kernel
theorem dX9_yard_53 : decode cX9_yard 53 = .ok (.aload_n 0, 1) := by decide +kernel
theorem dX9_yard_54 : decode cX9_yard 54 = .ok (.iload 7, 2) := by decide +kernel
theorem dX9_yard_56 : decode cX9_yard 56 = .ok (.invokevirtual 206, 3) := by decide +kernel
theorem dX9_yard_59 : decode cX9_yard 59 = .ok (.aload_n 0, 1) := by decide +kernel
theorem dX9_yard_60 : decode cX9_yard 60 = .ok (.getfield 166, 3) := by decide +kernel
theorem dX9_yard_63 : decode cX9_yard 63 = .ok (.iload 5, 2) := by decide +kernel
theorem dX9_yard_65 : decode cX9_yard 65 = .ok (.if_icmp .lt 16, 3) := by decide +kernel
theorem dX9_yard_68 : decode cX9_yard 68 = .ok (.aload_n 0, 1) := by decide +kernel
theorem dX9_yard_69 : decode cX9_yard 69 = .ok (.aload_n 0, 1) := by decide +kernel
theorem dX9_yard_70 : decode cX9_yard 70 = .ok (.getfield 163, 3) := by decide +kernel
theorem dX9_yard_73 : decode cX9_yard 73 = .ok (.iload 7, 2) := by decide +kernel
theorem dX9_yard_75 : decode cX9_yard 75 = .ok (.iconst 1, 1) := by decide +kernel
theorem dX9_yard_76 : decode cX9_yard 76 = .ok (.iadd, 1) := by decide +kernel
theorem dX9_yard_77 : decode cX9_yard 77 = .ok (.invokevirtual 102, 3) := by decide +kernel
theorem dX9_yard_80 : decode cX9_yard 80 = .ok (.ireturn, 1) := by decide +kernel
theorem dX9_yard_81 : decode cX9_yard 81 = .ok (.iinc 7 1, 3) := by decide +kernel
theorem dX9_yard_84 : decode cX9_yard 84 = .ok (.goto (-46), 3) := by decide +kernel
theorem dX9_yard_87 : decode cX9_yard 87 = .ok (.bipush (-9), 2) := by decide +kernel
theorem dX9_yard_89 : decode cX9_yard 89 = .ok (.ireturn, 1) := by decide +kernel
theorem dX9_push_0 : decode cX9_push 0 = .ok (.aload_n 0, 1) := by decide +kernel
theorem dX9_push_1 : decode cX9_push 1 = .ok (.iconst 1, 1) := by decide +kernel
theorem dX9_push_2 : decode cX9_push 2 = .ok (.iload_n 1, 1) := by decide +kernel
theorem dX9_push_3 : decode cX9_push 3 = .ok (.iload_n 2, 1) := by decide +kernel
theorem dX9_push_4 : decode cX9_push 4 = .ok (.iconst 0, 1) := by decide +kernel
theorem dX9_push_5 : decode cX9_push 5 = .ok (.iload_n 3, 1) := by decide +kernel
theorem dX9_push_6 : decode cX9_push 6 = .ok (.invokevirtual 238, 3) := by decide +kernel
theorem dX9_push_9 : decode cX9_push 9 = .ok (.istore 4, 2) := by decide +kernel
theorem dX9_push_11 : decode cX9_push 11 = .ok (.iload 4, 2) := by decide +kernel
theorem dX9_push_13 : decode cX9_push 13 = .ok (.ifCond .ge 6, 3) := by decide +kernel
theorem dX9_push_16 : decode cX9_push 16 = .ok (.iload 4, 2) := by decide +kernel
theorem dX9_push_18 : decode cX9_push 18 = .ok (.ireturn, 1) := by decide +kernel
theorem dX9_push_19 : decode cX9_push 19 = .ok (.bipush (-9), 2) := by decide +kernel
theorem dX9_push_21 : decode cX9_push 21 = .ok (.istore 5, 2) := by decide +kernel
theorem dX9_push_23 : decode cX9_push 23 = .ok (.bipush (-9), 2) := by decide +kernel
theorem dX9_push_25 : decode cX9_push 25 = .ok (.istore 6, 2) := by decide +kernel
theorem dX9_push_27 : decode cX9_push 27 = .ok (.bipush 99, 2) := by decide +kernel
theorem dX9_push_29 : decode cX9_push 29 = .ok (.istore 7, 2) := by decide +kernel
theorem dX9_push_31 : decode cX9_push 31 = .ok (.iload 7, 2) := by decide +kernel
theorem dX9_push_33 : decode cX9_push 33 = .ok (.iconst 1, 1) := by decide +kernel
theorem dX9_push_34 : decode cX9_push 34 = .ok (.if_icmp .lt 77, 3) := by decide +kernel
theorem dX9_push_37 : decode cX9_push 37 = .ok (.aload_n 0, 1) := by decide +kernel
theorem dX9_push_38 : decode cX9_push 38 = .ok (.getfield 51, 3) := by decide +kernel
theorem dX9_push_41 : decode cX9_push 41 = .ok (.iconst 0, 1) := by decide +kernel
theorem dX9_push_42 : decode cX9_push 42 = .ok (.iload 7, 2) := by decide +kernel
theorem dX9_push_44 : decode cX9_push 44 = .ok (.iastore, 1) := by decide +kernel
theorem dX9_push_45 : decode cX9_push 45 = .ok (.aload_n 0, 1) := by decide +kernel
theorem dX9_push_46 : decode cX9_push 46 = .ok (.getfield 51, 3) := by decide +kernel
theorem dX9_push_49 : decode cX9_push 49 = .ok (.iconst 1, 1) := by decide +kernel
theorem dX9_push_50 : decode cX9_push 50 = .ok (.iload 7, 2) := by decide +kernel
theorem dX9_push_52 : decode cX9_push 52 = .ok (.iastore, 1) := by decide +kernel
theorem dX9_push_53 : decode cX9_push 53 = .ok (.aload_n 0, 1) := by decide +kernel
theorem dX9_push_54 : decode cX9_push 54 = .ok (.iload_n 3, 1) := by decide +kernel
theorem dX9_push_55 : decode cX9_push 55 = .ok (.invokevirtual 245, 3) := by decide +kernel
theorem dX9_push_58 : decode cX9_push 58 = .ok (.ifCond .eq 8, 3) := by decide +kernel
theorem dX9_push_61 : decode cX9_push 61 = .ok (.iload 7, 2) := by decide +kernel
theorem dX9_push_63 : decode cX9_push 63 = .ok (.goto 5, 3) := by decide +kernel
theorem dX9_push_66 : decode cX9_push 66 = .ok (.iload 5, 2) := by decide +kernel
theorem dX9_push_68 : decode cX9_push 68 = .ok (.istore 5, 2) := by decide +kernel
theorem dX9_push_70 : decode cX9_push 70 = .ok (.aload_n 0, 1) := by decide +kernel
theorem dX9_push_71 : decode cX9_push 71 = .ok (.getfield 51, 3) := by decide +kernel
theorem dX9_push_74 : decode cX9_push 74 = .ok (.iconst 1, 1) := by decide +kernel
theorem dX9_push_75 : decode cX9_push 75 = .ok (.iconst 0, 1) := by decide +kernel
theorem dX9_push_76 : decode cX9_push 76 = .ok (.iastore, 1) := by decide +kernel
theorem dX9_push_77 : decode cX9_push 77 = .ok (.aload_n 0, 1) := by decide +kernel
theorem dX9_push_78 : decode cX9_push 78 = .ok (.iload_n 3, 1) := by decide +kernel
theorem dX9_push_79 : decode cX9_push 79 = .ok (.invokevirtual 224, 3) := by decide +kernel
theorem dX9_push_82 : decode cX9_push 82 = .ok (.istore 8, 2) := by decide +kernel
theorem dX9_push_84 : decode cX9_push 84 = .ok (.iload 8, 2) := by decide +kernel
theorem dX9_push_86 : decode cX9_push 86 = .ok (.iconst 4, 1) := by decide +kernel
theorem dX9_push_87 : decode cX9_push 87 = .ok (.if_icmp .eq 14, 3) := by decide +kernel
theorem dX9_push_90 : decode cX9_push 90 = .ok (.iload 8, 2) := by decide +kernel
theorem dX9_push_92 : decode cX9_push 92 = .ok (.iconst 5, 1) := by decide +kernel
theorem dX9_push_93 : decode cX9_push 93 = .ok (.if_icmp .eq 8, 3) := by decide +kernel
theorem dX9_push_96 : decode cX9_push 96 = .ok (.iload 7, 2) := by decide +kernel
theorem dX9_push_98 : decode cX9_push 98 = .ok (.goto 5, 3) := by decide +kernel
theorem dX9_push_101 : decode cX9_push 101 = .ok (.iload 6, 2) := by decide +kernel
theorem dX9_push_103 : decode cX9_push 103 = .ok (.istore 6, 2) := by decide +kernel
theorem dX9_push_105 : decode cX9_push 105 = .ok (.iinc 7 (-1), 3) := by decide +kernel
theorem dX9_push_108 : decode cX9_push 108 = .ok (.goto (-77), 3) := by decide +kernel
theorem dX9_push_111 : decode cX9_push 111 = .ok (.iload 5, 2) := by decide +kernel
theorem dX9_push_113 : decode cX9_push 113 = .ok (.bipush (-9), 2) := by decide +kernel
theorem dX9_push_115 : decode cX9_push 115 = .ok (.if_icmp .ne 8, 3) := by decide +kernel
theorem dX9_push_118 : decode cX9_push 118 = .ok (.bipush (-9), 2) := by decide +kernel
theorem dX9_push_120 : decode cX9_push 120 = .ok (.goto 11, 3) := by decide +kernel
theorem dX9_push_123 : decode cX9_push 123 = .ok (.aload_n 0, 1) := by decide +kernel
theorem dX9_push_124 : decode cX9_push 124 = .ok (.iload 6, 2) := by decide +kernel
theorem dX9_push_126 : decode cX9_push 126 = .ok (.iload 5, 2) := by decide +kernel
theorem dX9_push_128 : decode cX9_push 128 = .ok (.invokevirtual 102, 3) := by decide +kernel
theorem dX9_push_131 : decode cX9_push 131 = .ok (.ireturn, 1) := by decide +kernel
theorem dX9_bears_0 : decode cX9_bears 0 = .ok (.aload_n 0, 1) := by decide +kernel
theorem dX9_bears_1 : decode cX9_bears 1 = .ok (.iload 5, 2) := by decide +kernel
theorem dX9_bears_3 : decode cX9_bears 3 = .ok (.iconst 0, 1) := by decide +kernel
theorem dX9_bears_4 : decode cX9_bears 4 = .ok (.bipush 99, 2) := by decide +kernel
theorem dX9_bears_6 : decode cX9_bears 6 = .ok (.invokestatic 80, 3) := by decide +kernel
theorem dX9_bears_9 : decode cX9_bears 9 = .ok (.iload_n 1, 1) := by decide +kernel
theorem dX9_bears_10 : decode cX9_bears 10 = .ok (.iload_n 2, 1) := by decide +kernel
theorem dX9_bears_11 : decode cX9_bears 11 = .ok (.iload_n 3, 1) := by decide +kernel
theorem dX9_bears_12 : decode cX9_bears 12 = .ok (.iload 4, 2) := by decide +kernel
theorem dX9_bears_14 : decode cX9_bears 14 = .ok (.invokevirtual 238, 3) := by decide +kernel
theorem dX9_bears_17 : decode cX9_bears 17 = .ok (.istore 6, 2) := by decide +kernel
theorem dX9_bears_19 : decode cX9_bears 19 = .ok (.iload 6, 2) := by decide +kernel
theorem dX9_bears_21 : decode cX9_bears 21 = .ok (.ifCond .ge 6, 3) := by decide +kernel
theorem dX9_bears_24 : decode cX9_bears 24 = .ok (.iload 6, 2) := by decide +kernel
theorem dX9_bears_26 : decode cX9_bears 26 = .ok (.ireturn, 1) := by decide +kernel
theorem dX9_bears_27 : decode cX9_bears 27 = .ok (.bipush (-9), 2) := by decide +kernel
theorem dX9_bears_29 : decode cX9_bears 29 = .ok (.istore 7, 2) := by decide +kernel
theorem dX9_bears_31 : decode cX9_bears 31 = .ok (.aload_n 0, 1) := by decide +kernel
theorem dX9_bears_32 : decode cX9_bears 32 = .ok (.iload 5, 2) := by decide +kernel
theorem dX9_bears_34 : decode cX9_bears 34 = .ok (.putfield 151, 3) := by decide +kernel
theorem dX9_bears_37 : decode cX9_bears 37 = .ok (.bipush 99, 2) := by decide +kernel
theorem dX9_bears_39 : decode cX9_bears 39 = .ok (.istore 8, 2) := by decide +kernel
theorem dX9_bears_41 : decode cX9_bears 41 = .ok (.iload 8, 2) := by decide +kernel
theorem dX9_bears_43 : decode cX9_bears 43 = .ok (.ifCond .lt 90, 3) := by decide +kernel
theorem dX9_bears_46 : decode cX9_bears 46 = .ok (.aload_n 0, 1) := by decide +kernel
theorem dX9_bears_47 : decode cX9_bears 47 = .ok (.iload 8, 2) := by decide +kernel
theorem dX9_bears_49 : decode cX9_bears 49 = .ok (.putfield 176, 3) := by decide +kernel
theorem dX9_bears_52 : decode cX9_bears 52 = .ok (.aload_n 0, 1) := by decide +kernel
theorem dX9_bears_53 : decode cX9_bears 53 = .ok (.iload 4, 2) := by decide +kernel
theorem dX9_bears_55 : decode cX9_bears 55 = .ok (.iconst 0, 1) := by decide +kernel
theorem dX9_bears_56 : decode cX9_bears 56 = .ok (.invokevirtual 183, 3) := by decide +kernel
theorem dX9_bears_59 : decode cX9_bears 59 = .ok (.iconst 0, 1) := by decide +kernel
theorem dX9_bears_60 : decode cX9_bears 60 = .ok (.istore 9, 2) := by decide +kernel
theorem dX9_bears_62 : decode cX9_bears 62 = .ok (.iload 9, 2) := by decide +kernel
theorem dX9_bears_64 : decode cX9_bears 64 = .ok (.sipush 200, 3) := by decide +kernel
theorem dX9_bears_67 : decode cX9_bears 67 = .ok (.if_icmp .ge 22, 3) := by decide +kernel
theorem dX9_bears_70 : decode cX9_bears 70 = .ok (.aload_n 0, 1) := by decide +kernel
theorem dX9_bears_71 : decode cX9_bears 71 = .ok (.getfield 160, 3) := by decide +kernel
theorem dX9_bears_74 : decode cX9_bears 74 = .ok (.ifCond .ne 15, 3) := by decide +kernel
theorem dX9_bears_77 : decode cX9_bears 77 = .ok (.aload_n 0, 1) := by decide +kernel
theorem dX9_bears_78 : decode cX9_bears 78 = .ok (.iload 9, 2) := by decide +kernel
theorem dX9_bears_80 : decode cX9_bears 80 = .ok (.invokevirtual 206, 3) := by decide +kernel
theorem dX9_bears_83 : decode cX9_bears 83 = .ok (.iinc 9 1, 3) := by decide +kernel
theorem dX9_bears_86 : decode cX9_bears 86 = .ok (.goto (-24), 3) := by decide +kernel
theorem dX9_bears_89 : decode cX9_bears 89 = .ok (.iload 8, 2) := by decide +kernel
theorem dX9_bears_91 : decode cX9_bears 91 = .ok (.ifCond .ne 13, 3) := by decide +kernel
theorem dX9_bears_94 : decode cX9_bears 94 = .ok (.aload_n 0, 1) := by decide +kernel
theorem dX9_bears_95 : decode cX9_bears 95 = .ok (.getfield 160, 3) := by decide +kernel
theorem dX9_bears_98 : decode cX9_bears 98 = .ok (.ifCond .eq 6, 3) := by decide +kernel
theorem dX9_bears_101 : decode cX9_bears 101 = .ok (.bipush (-9), 2) := by decide +kernel
theorem dX9_bears_103 : decode cX9_bears 103 = .ok (.ireturn, 1) := by decide +kernel
theorem dX9_bears_104 : decode cX9_bears 104 = .ok (.aload_n 0, 1) := by decide +kernel
theorem dX9_bears_105 : decode cX9_bears 105 = .ok (.getfield 160, 3) := by decide +kernel
theorem dX9_bears_108 : decode cX9_bears 108 = .ok (.ifCond .ne 15, 3) := by decide +kernel
theorem dX9_bears_111 : decode cX9_bears 111 = .ok (.iload 7, 2) := by decide +kernel
theorem dX9_bears_113 : decode cX9_bears 113 = .ok (.bipush (-9), 2) := by decide +kernel
theorem dX9_bears_115 : decode cX9_bears 115 = .ok (.if_icmp .ne 8, 3) := by decide +kernel
theorem dX9_bears_118 : decode cX9_bears 118 = .ok (.iload 8, 2) := by decide +kernel
theorem dX9_bears_120 : decode cX9_bears 120 = .ok (.goto 5, 3) := by decide +kernel
theorem dX9_bears_123 : decode cX9_bears 123 = .ok (.iload 7, 2) := by decide +kernel
theorem dX9_bears_125 : decode cX9_bears 125 = .ok (.istore 7, 2) := by decide +kernel
theorem dX9_bears_127 : decode cX9_bears 127 = .ok (.iinc 8 (-1), 3) := by decide +kernel
theorem dX9_bears_130 : decode cX9_bears 130 = .ok (.goto (-89), 3) := by decide +kernel
theorem dX9_bears_133 : decode cX9_bears 133 = .ok (.iload 7, 2) := by decide +kernel
theorem dX9_bears_135 : decode cX9_bears 135 = .ok (.ireturn, 1) := by decide +kernel
theorem dX9_meets_0 : decode cX9_meets 0 = .ok (.iload_n 2, 1) := by decide +kernel
theorem dX9_meets_1 : decode cX9_meets 1 = .ok (.invokestatic 139, 3) := by decide +kernel
theorem dX9_meets_4 : decode cX9_meets 4 = .ok (.ifCond .eq 16, 3) := by decide +kernel
theorem dX9_meets_7 : decode cX9_meets 7 = .ok (.aload_n 0, 1) := by decide +kernel
theorem dX9_meets_8 : decode cX9_meets 8 = .ok (.iload_n 1, 1) := by decide +kernel
theorem dX9_meets_9 : decode cX9_meets 9 = .ok (.iload_n 3, 1) := by decide +kernel
theorem dX9_meets_10 : decode cX9_meets 10 = .ok (.iload 4, 2) := by decide +kernel
theorem dX9_meets_12 : decode cX9_meets 12 = .ok (.iload 5, 2) := by decide +kernel
theorem dX9_meets_14 : decode cX9_meets 14 = .ok (.invokevirtual 230, 3) := by decide +kernel
theorem dX9_meets_17 : decode cX9_meets 17 = .ok (.ifCond .ne 5, 3) := by decide +kernel
theorem dX9_meets_20 : decode cX9_meets 20 = .ok (.iconst (-1), 1) := by decide +kernel
theorem dX9_meets_21 : decode cX9_meets 21 = .ok (.ireturn, 1) := by decide +kernel
theorem dX9_meets_22 : decode cX9_meets 22 = .ok (.aload_n 0, 1) := by decide +kernel
theorem dX9_meets_23 : decode cX9_meets 23 = .ok (.getfield 29, 3) := by decide +kernel
theorem dX9_meets_26 : decode cX9_meets 26 = .ok (.iload_n 1, 1) := by decide +kernel
theorem dX9_meets_27 : decode cX9_meets 27 = .ok (.baload, 1) := by decide +kernel
theorem dX9_meets_28 : decode cX9_meets 28 = .ok (.ifCond .eq 21, 3) := by decide +kernel
theorem dX9_meets_31 : decode cX9_meets 31 = .ok (.aload_n 0, 1) := by decide +kernel
theorem dX9_meets_32 : decode cX9_meets 32 = .ok (.getfield 29, 3) := by decide +kernel
theorem dX9_meets_35 : decode cX9_meets 35 = .ok (.iload_n 2, 1) := by decide +kernel
theorem dX9_meets_36 : decode cX9_meets 36 = .ok (.baload, 1) := by decide +kernel
theorem dX9_meets_37 : decode cX9_meets 37 = .ok (.ifCond .eq 12, 3) := by decide +kernel
theorem dX9_meets_40 : decode cX9_meets 40 = .ok (.aload_n 0, 1) := by decide +kernel
theorem dX9_meets_41 : decode cX9_meets 41 = .ok (.getfield 36, 3) := by decide +kernel
theorem dX9_meets_44 : decode cX9_meets 44 = .ok (.iload_n 3, 1) := by decide +kernel
theorem dX9_meets_45 : decode cX9_meets 45 = .ok (.baload, 1) := by decide +kernel
theorem dX9_meets_46 : decode cX9_meets 46 = .ok (.ifCond .ne 9, 3) := by decide +kernel
theorem dX9_meets_49 : decode cX9_meets 49 = .ok (.aload_n 0, 1) := by decide +kernel
theorem dX9_meets_50 : decode cX9_meets 50 = .ok (.iconst 1, 1) := by decide +kernel
theorem dX9_meets_51 : decode cX9_meets 51 = .ok (.invokevirtual 94, 3) := by decide +kernel
theorem dX9_meets_54 : decode cX9_meets 54 = .ok (.ireturn, 1) := by decide +kernel
theorem dX9_meets_55 : decode cX9_meets 55 = .ok (.aload_n 0, 1) := by decide +kernel
theorem dX9_meets_56 : decode cX9_meets 56 = .ok (.iload_n 2, 1) := by decide +kernel
theorem dX9_meets_57 : decode cX9_meets 57 = .ok (.iload_n 3, 1) := by decide +kernel
theorem dX9_meets_58 : decode cX9_meets 58 = .ok (.iload 4, 2) := by decide +kernel
theorem dX9_meets_60 : decode cX9_meets 60 = .ok (.invokevirtual 234, 3) := by decide +kernel
theorem dX9_meets_63 : decode cX9_meets 63 = .ok (.aload_n 0, 1) := by decide +kernel
theorem dX9_meets_64 : decode cX9_meets 64 = .ok (.iload 5, 2) := by decide +kernel
theorem dX9_meets_66 : decode cX9_meets 66 = .ok (.iconst 0, 1) := by decide +kernel
theorem dX9_meets_67 : decode cX9_meets 67 = .ok (.invokevirtual 183, 3) := by decide +kernel
theorem dX9_meets_70 : decode cX9_meets 70 = .ok (.iconst 1, 1) := by decide +kernel
theorem dX9_meets_71 : decode cX9_meets 71 = .ok (.istore 6, 2) := by decide +kernel
theorem dX9_meets_73 : decode cX9_meets 73 = .ok (.iload 6, 2) := by decide +kernel
theorem dX9_meets_75 : decode cX9_meets 75 = .ok (.sipush 400, 3) := by decide +kernel
theorem dX9_meets_78 : decode cX9_meets 78 = .ok (.if_icmp .gt 45, 3) := by decide +kernel
theorem dX9_meets_81 : decode cX9_meets 81 = .ok (.aload_n 0, 1) := by decide +kernel
theorem dX9_meets_82 : decode cX9_meets 82 = .ok (.getfield 160, 3) := by decide +kernel
theorem dX9_meets_85 : decode cX9_meets 85 = .ok (.ifCond .ne 9, 3) := by decide +kernel
theorem dX9_meets_88 : decode cX9_meets 88 = .ok (.aload_n 0, 1) := by decide +kernel
theorem dX9_meets_89 : decode cX9_meets 89 = .ok (.iload 6, 2) := by decide +kernel
theorem dX9_meets_91 : decode cX9_meets 91 = .ok (.invokevirtual 206, 3) := by decide +kernel
theorem dX9_meets_94 : decode cX9_meets 94 = .ok (.aload_n 0, 1) := by decide +kernel
theorem dX9_meets_95 : decode cX9_meets 95 = .ok (.getfield 69, 3) := by decide +kernel
theorem dX9_meets_98 : decode cX9_meets 98 = .ok (.iload 6, 2) := by decide +kernel
theorem dX9_meets_100 : decode cX9_meets 100 = .ok (.aload_n 0, 1) := by decide +kernel
theorem dX9_meets_101 : decode cX9_meets 101 = .ok (.getfield 160, 3) := by decide +kernel
theorem dX9_meets_104 : decode cX9_meets 104 = .ok (.ifCond .ne 10, 3) := by decide +kernel
theorem dX9_meets_107 : decode cX9_meets 107 = .ok (.aload_n 0, 1) := by decide +kernel
theorem dX9_meets_108 : decode cX9_meets 108 = .ok (.getfield 154, 3) := by decide +kernel
theorem dX9_meets_111 : decode cX9_meets 111 = .ok (.goto 5, 3) := by decide +kernel
theorem dX9_meets_114 : decode cX9_meets 114 = .ok (.bipush (-9), 2) := by decide +kernel
theorem dX9_meets_116 : decode cX9_meets 116 = .ok (.iastore, 1) := by decide +kernel
theorem dX9_meets_117 : decode cX9_meets 117 = .ok (.iinc 6 1, 3) := by decide +kernel
theorem dX9_meets_120 : decode cX9_meets 120 = .ok (.goto (-47), 3) := by decide +kernel
theorem dX9_meets_123 : decode cX9_meets 123 = .ok (.aload_n 0, 1) := by decide +kernel
theorem dX9_meets_124 : decode cX9_meets 124 = .ok (.iload_n 1, 1) := by decide +kernel
theorem dX9_meets_125 : decode cX9_meets 125 = .ok (.iload_n 3, 1) := by decide +kernel
theorem dX9_meets_126 : decode cX9_meets 126 = .ok (.iload 4, 2) := by decide +kernel
theorem dX9_meets_128 : decode cX9_meets 128 = .ok (.invokevirtual 234, 3) := by decide +kernel
theorem dX9_meets_131 : decode cX9_meets 131 = .ok (.aload_n 0, 1) := by decide +kernel
theorem dX9_meets_132 : decode cX9_meets 132 = .ok (.iload 5, 2) := by decide +kernel
theorem dX9_meets_134 : decode cX9_meets 134 = .ok (.iconst 0, 1) := by decide +kernel
theorem dX9_meets_135 : decode cX9_meets 135 = .ok (.invokevirtual 183, 3) := by decide +kernel
theorem dX9_meets_138 : decode cX9_meets 138 = .ok (.iconst 1, 1) := by decide +kernel
theorem dX9_meets_139 : decode cX9_meets 139 = .ok (.istore 6, 2) := by decide +kernel
theorem dX9_meets_141 : decode cX9_meets 141 = .ok (.iload 6, 2) := by decide +kernel
theorem dX9_meets_143 : decode cX9_meets 143 = .ok (.sipush 400, 3) := by decide +kernel
theorem dX9_meets_146 : decode cX9_meets 146 = .ok (.if_icmp .gt 46, 3) := by decide +kernel
theorem dX9_meets_149 : decode cX9_meets 149 = .ok (.aload_n 0, 1) := by decide +kernel
theorem dX9_meets_150 : decode cX9_meets 150 = .ok (.getfield 160, 3) := by decide +kernel
theorem dX9_meets_153 : decode cX9_meets 153 = .ok (.ifCond .ne 39, 3) := by decide +kernel
theorem dX9_meets_156 : decode cX9_meets 156 = .ok (.aload_n 0, 1) := by decide +kernel
theorem dX9_meets_157 : decode cX9_meets 157 = .ok (.iload 6, 2) := by decide +kernel
theorem dX9_meets_159 : decode cX9_meets 159 = .ok (.invokevirtual 206, 3) := by decide +kernel
theorem dX9_meets_162 : decode cX9_meets 162 = .ok (.aload_n 0, 1) := by decide +kernel
theorem dX9_meets_163 : decode cX9_meets 163 = .ok (.getfield 160, 3) := by decide +kernel
theorem dX9_meets_166 : decode cX9_meets 166 = .ok (.ifCond .ne 20, 3) := by decide +kernel
theorem dX9_meets_169 : decode cX9_meets 169 = .ok (.aload_n 0, 1) := by decide +kernel
theorem dX9_meets_170 : decode cX9_meets 170 = .ok (.getfield 154, 3) := by decide +kernel
theorem dX9_meets_173 : decode cX9_meets 173 = .ok (.aload_n 0, 1) := by decide +kernel
theorem dX9_meets_174 : decode cX9_meets 174 = .ok (.getfield 69, 3) := by decide +kernel
theorem dX9_meets_177 : decode cX9_meets 177 = .ok (.iload 6, 2) := by decide +kernel
theorem dX9_meets_179 : decode cX9_meets 179 = .ok (.iaload, 1) := by decide +kernel
theorem dX9_meets_180 : decode cX9_meets 180 = .ok (.if_icmp .ne 6, 3) := by decide +kernel
theorem dX9_meets_183 : decode cX9_meets 183 = .ok (.iload 6, 2) := by decide +kernel
theorem dX9_meets_185 : decode cX9_meets 185 = .ok (.ireturn, 1) := by decide +kernel
theorem dX9_meets_186 : decode cX9_meets 186 = .ok (.iinc 6 1, 3) := by decide +kernel
theorem dX9_meets_189 : decode cX9_meets 189 = .ok (.goto (-48), 3) := by decide +kernel
theorem dX9_meets_192 : decode cX9_meets 192 = .ok (.bipush (-9), 2) := by decide +kernel
theorem dX9_meets_194 : decode cX9_meets 194 = .ok (.ireturn, 1) := by decide +kernel
theorem dX9_counted_0 : decode cX9_counted 0 = .ok (.iconst 0, 1) := by decide +kernel
theorem dX9_counted_1 : decode cX9_counted 1 = .ok (.istore_n 2, 1) := by decide +kernel
theorem dX9_counted_2 : decode cX9_counted 2 = .ok (.iconst 0, 1) := by decide +kernel
theorem dX9_counted_3 : decode cX9_counted 3 = .ok (.istore_n 3, 1) := by decide +kernel
theorem dX9_counted_4 : decode cX9_counted 4 = .ok (.iload_n 3, 1) := by decide +kernel
theorem dX9_counted_5 : decode cX9_counted 5 = .ok (.iconst 4, 1) := by decide +kernel
theorem dX9_counted_6 : decode cX9_counted 6 = .ok (.if_icmp .ge 106, 3) := by decide +kernel
theorem dX9_counted_9 : decode cX9_counted 9 = .ok (.iload_n 2, 1) := by decide +kernel
theorem dX9_counted_10 : decode cX9_counted 10 = .ok (.iload_n 1, 1) := by decide +kernel
theorem dX9_counted_11 : decode cX9_counted 11 = .ok (.ifCond .ne 12, 3) := by decide +kernel
theorem dX9_counted_14 : decode cX9_counted 14 = .ok (.aload_n 0, 1) := by decide +kernel
theorem dX9_counted_15 : decode cX9_counted 15 = .ok (.getfield 29, 3) := by decide +kernel
theorem dX9_counted_18 : decode cX9_counted 18 = .ok (.iload_n 3, 1) := by decide +kernel
theorem dX9_counted_19 : decode cX9_counted 19 = .ok (.baload, 1) := by decide +kernel
theorem dX9_counted_20 : decode cX9_counted 20 = .ok (.ifCond .ne 79, 3) := by decide +kernel
theorem dX9_counted_23 : decode cX9_counted 23 = .ok (.iload_n 1, 1) := by decide +kernel
theorem dX9_counted_24 : decode cX9_counted 24 = .ok (.iconst 1, 1) := by decide +kernel
theorem dX9_counted_25 : decode cX9_counted 25 = .ok (.if_icmp .ne 12, 3) := by decide +kernel
theorem dX9_counted_28 : decode cX9_counted 28 = .ok (.aload_n 0, 1) := by decide +kernel
theorem dX9_counted_29 : decode cX9_counted 29 = .ok (.getfield 36, 3) := by decide +kernel
theorem dX9_counted_32 : decode cX9_counted 32 = .ok (.iload_n 3, 1) := by decide +kernel
theorem dX9_counted_33 : decode cX9_counted 33 = .ok (.baload, 1) := by decide +kernel
theorem dX9_counted_34 : decode cX9_counted 34 = .ok (.ifCond .ne 65, 3) := by decide +kernel
theorem dX9_counted_37 : decode cX9_counted 37 = .ok (.iload_n 1, 1) := by decide +kernel
theorem dX9_counted_38 : decode cX9_counted 38 = .ok (.iconst 2, 1) := by decide +kernel
theorem dX9_counted_39 : decode cX9_counted 39 = .ok (.if_icmp .ne 27, 3) := by decide +kernel
theorem dX9_counted_42 : decode cX9_counted 42 = .ok (.aload_n 0, 1) := by decide +kernel
theorem dX9_counted_43 : decode cX9_counted 43 = .ok (.getfield 29, 3) := by decide +kernel
theorem dX9_counted_46 : decode cX9_counted 46 = .ok (.iload_n 3, 1) := by decide +kernel
theorem dX9_counted_47 : decode cX9_counted 47 = .ok (.baload, 1) := by decide +kernel
theorem dX9_counted_48 : decode cX9_counted 48 = .ok (.ifCond .eq 18, 3) := by decide +kernel
theorem dX9_counted_51 : decode cX9_counted 51 = .ok (.aload_n 0, 1) := by decide +kernel
theorem dX9_counted_52 : decode cX9_counted 52 = .ok (.getfield 33, 3) := by decide +kernel
theorem dX9_counted_55 : decode cX9_counted 55 = .ok (.bipush 7, 2) := by decide +kernel
theorem dX9_counted_57 : decode cX9_counted 57 = .ok (.iload_n 3, 1) := by decide +kernel
theorem dX9_counted_58 : decode cX9_counted 58 = .ok (.imul, 1) := by decide +kernel
theorem dX9_counted_59 : decode cX9_counted 59 = .ok (.bipush 6, 2) := by decide +kernel
theorem dX9_counted_61 : decode cX9_counted 61 = .ok (.iadd, 1) := by decide +kernel
theorem dX9_counted_62 : decode cX9_counted 62 = .ok (.iaload, 1) := by decide +kernel
theorem dX9_counted_63 : decode cX9_counted 63 = .ok (.ifCond .gt 36, 3) := by decide +kernel
theorem dX9_counted_66 : decode cX9_counted 66 = .ok (.iload_n 1, 1) := by decide +kernel
theorem dX9_counted_67 : decode cX9_counted 67 = .ok (.iconst 4, 1) := by decide +kernel
theorem dX9_counted_68 : decode cX9_counted 68 = .ok (.if_icmp .ne 16, 3) := by decide +kernel
theorem dX9_counted_71 : decode cX9_counted 71 = .ok (.iload_n 3, 1) := by decide +kernel
theorem dX9_counted_72 : decode cX9_counted 72 = .ok (.ifCond .le 12, 3) := by decide +kernel
theorem dX9_counted_75 : decode cX9_counted 75 = .ok (.aload_n 0, 1) := by decide +kernel
theorem dX9_counted_76 : decode cX9_counted 76 = .ok (.getfield 54, 3) := by decide +kernel
theorem dX9_counted_79 : decode cX9_counted 79 = .ok (.iload_n 3, 1) := by decide +kernel
theorem dX9_counted_80 : decode cX9_counted 80 = .ok (.baload, 1) := by decide +kernel
theorem dX9_counted_81 : decode cX9_counted 81 = .ok (.ifCond .ne 18, 3) := by decide +kernel
theorem dX9_counted_84 : decode cX9_counted 84 = .ok (.iload_n 1, 1) := by decide +kernel
theorem dX9_counted_85 : decode cX9_counted 85 = .ok (.bipush 6, 2) := by decide +kernel
theorem dX9_counted_87 : decode cX9_counted 87 = .ok (.if_icmp .ne 16, 3) := by decide +kernel
theorem dX9_counted_90 : decode cX9_counted 90 = .ok (.aload_n 0, 1) := by decide +kernel
theorem dX9_counted_91 : decode cX9_counted 91 = .ok (.getfield 22, 3) := by decide +kernel
theorem dX9_counted_94 : decode cX9_counted 94 = .ok (.iload_n 3, 1) := by decide +kernel
theorem dX9_counted_95 : decode cX9_counted 95 = .ok (.iaload, 1) := by decide +kernel
theorem dX9_counted_96 : decode cX9_counted 96 = .ok (.ifCond .lt 7, 3) := by decide +kernel
theorem dX9_counted_99 : decode cX9_counted 99 = .ok (.iconst 1, 1) := by decide +kernel
theorem dX9_counted_100 : decode cX9_counted 100 = .ok (.goto 4, 3) := by decide +kernel
theorem dX9_counted_103 : decode cX9_counted 103 = .ok (.iconst 0, 1) := by decide +kernel
theorem dX9_counted_104 : decode cX9_counted 104 = .ok (.iadd, 1) := by decide +kernel
theorem dX9_counted_105 : decode cX9_counted 105 = .ok (.istore_n 2, 1) := by decide +kernel
theorem dX9_counted_106 : decode cX9_counted 106 = .ok (.iinc 3 1, 3) := by decide +kernel
theorem dX9_counted_109 : decode cX9_counted 109 = .ok (.goto (-105), 3) := by decide +kernel
theorem dX9_counted_112 : decode cX9_counted 112 = .ok (.iconst 0, 1) := by decide +kernel
theorem dX9_counted_113 : decode cX9_counted 113 = .ok (.istore_n 3, 1) := by decide +kernel
theorem dX9_counted_114 : decode cX9_counted 114 = .ok (.iload_n 3, 1) := by decide +kernel
theorem dX9_counted_115 : decode cX9_counted 115 = .ok (.bipush 6, 2) := by decide +kernel
theorem dX9_counted_117 : decode cX9_counted 117 = .ok (.if_icmp .ge 31, 3) := by decide +kernel
theorem dX9_counted_120 : decode cX9_counted 120 = .ok (.iload_n 2, 1) := by decide +kernel
theorem dX9_counted_121 : decode cX9_counted 121 = .ok (.iload_n 1, 1) := by decide +kernel
theorem dX9_counted_122 : decode cX9_counted 122 = .ok (.iconst 5, 1) := by decide +kernel
theorem dX9_counted_123 : decode cX9_counted 123 = .ok (.if_icmp .ne 16, 3) := by decide +kernel
theorem dX9_counted_126 : decode cX9_counted 126 = .ok (.aload_n 0, 1) := by decide +kernel
theorem dX9_counted_127 : decode cX9_counted 127 = .ok (.getfield 13, 3) := by decide +kernel
theorem dX9_counted_130 : decode cX9_counted 130 = .ok (.iload_n 3, 1) := by decide +kernel
theorem dX9_counted_131 : decode cX9_counted 131 = .ok (.iaload, 1) := by decide +kernel
theorem dX9_counted_132 : decode cX9_counted 132 = .ok (.ifCond .lt 7, 3) := by decide +kernel
theorem dX9_counted_135 : decode cX9_counted 135 = .ok (.iconst 1, 1) := by decide +kernel
theorem dX9_counted_136 : decode cX9_counted 136 = .ok (.goto 4, 3) := by decide +kernel
theorem dX9_counted_139 : decode cX9_counted 139 = .ok (.iconst 0, 1) := by decide +kernel
theorem dX9_counted_140 : decode cX9_counted 140 = .ok (.iadd, 1) := by decide +kernel
theorem dX9_counted_141 : decode cX9_counted 141 = .ok (.istore_n 2, 1) := by decide +kernel
theorem dX9_counted_142 : decode cX9_counted 142 = .ok (.iinc 3 1, 3) := by decide +kernel
theorem dX9_counted_145 : decode cX9_counted 145 = .ok (.goto (-31), 3) := by decide +kernel
theorem dX9_counted_148 : decode cX9_counted 148 = .ok (.iload_n 1, 1) := by decide +kernel
theorem dX9_counted_149 : decode cX9_counted 149 = .ok (.iconst 3, 1) := by decide +kernel
theorem dX9_counted_150 : decode cX9_counted 150 = .ok (.if_icmp .ne 26, 3) := by decide +kernel
theorem dX9_counted_153 : decode cX9_counted 153 = .ok (.aload_n 0, 1) := by decide +kernel
theorem dX9_counted_154 : decode cX9_counted 154 = .ok (.getfield 54, 3) := by decide +kernel
theorem dX9_counted_157 : decode cX9_counted 157 = .ok (.iconst 0, 1) := by decide +kernel
theorem dX9_counted_158 : decode cX9_counted 158 = .ok (.baload, 1) := by decide +kernel
theorem dX9_counted_159 : decode cX9_counted 159 = .ok (.ifCond .eq 13, 3) := by decide +kernel
theorem dX9_counted_162 : decode cX9_counted 162 = .ok (.aload_n 0, 1) := by decide +kernel
theorem dX9_counted_163 : decode cX9_counted 163 = .ok (.getfield 57, 3) := by decide +kernel
theorem dX9_counted_166 : decode cX9_counted 166 = .ok (.bipush 9, 2) := by decide +kernel
theorem dX9_counted_168 : decode cX9_counted 168 = .ok (.iaload, 1) := by decide +kernel
theorem dX9_counted_169 : decode cX9_counted 169 = .ok (.goto 8, 3) := by decide +kernel
theorem dX9_counted_172 : decode cX9_counted 172 = .ok (.iconst 0, 1) := by decide +kernel
theorem dX9_counted_173 : decode cX9_counted 173 = .ok (.goto 4, 3) := by decide +kernel
theorem dX9_counted_176 : decode cX9_counted 176 = .ok (.iload_n 2, 1) := by decide +kernel
theorem dX9_counted_177 : decode cX9_counted 177 = .ok (.ireturn, 1) := by decide +kernel
theorem dX9_count_0 : decode cX9_count 0 = .ok (.iload_n 1, 1) := by decide +kernel
theorem dX9_count_1 : decode cX9_count 1 = .ok (.iconst 0, 1) := by decide +kernel
theorem dX9_count_2 : decode cX9_count 2 = .ok (.bipush 6, 2) := by decide +kernel
theorem dX9_count_4 : decode cX9_count 4 = .ok (.invokestatic 80, 3) := by decide +kernel
theorem dX9_count_7 : decode cX9_count 7 = .ok (.ifCond .eq 11, 3) := by decide +kernel
theorem dX9_count_10 : decode cX9_count 10 = .ok (.aload_n 0, 1) := by decide +kernel
theorem dX9_count_11 : decode cX9_count 11 = .ok (.iload_n 1, 1) := by decide +kernel
theorem dX9_count_12 : decode cX9_count 12 = .ok (.invokevirtual 262, 3) := by decide +kernel
theorem dX9_count_15 : decode cX9_count 15 = .ok (.goto 4, 3) := by decide +kernel
theorem dX9_count_18 : decode cX9_count 18 = .ok (.iconst (-1), 1) := by decide +kernel
theorem dX9_count_19 : decode cX9_count 19 = .ok (.ireturn, 1) := by decide +kernel
theorem dX9_mix_0 : decode cX9_mix 0 = .ok (.aload_n 0, 1) := by decide +kernel
theorem dX9_mix_1 : decode cX9_mix 1 = .ok (.ldc2_w 265, 3) := by decide +kernel
theorem dX9_mix_4 : decode cX9_mix 4 = .ok (.aload_n 0, 1) := by decide +kernel
theorem dX9_mix_5 : decode cX9_mix 5 = .ok (.getfield 267, 3) := by decide +kernel
theorem dX9_mix_8 : decode cX9_mix 8 = .ok (.lmul, 1) := by decide +kernel
theorem dX9_mix_9 : decode cX9_mix 9 = .ok (.lload_n 1, 1) := by decide +kernel
theorem dX9_mix_10 : decode cX9_mix 10 = .ok (.ladd, 1) := by decide +kernel
theorem dX9_mix_11 : decode cX9_mix 11 = .ok (.putfield 267, 3) := by decide +kernel
theorem dX9_mix_14 : decode cX9_mix 14 = .ok (.return_, 1) := by decide +kernel
theorem dX9_mixBooks_0 : decode cX9_mixBooks 0 = .ok (.iconst 0, 1) := by decide +kernel
theorem dX9_mixBooks_1 : decode cX9_mixBooks 1 = .ok (.istore_n 1, 1) := by decide +kernel
theorem dX9_mixBooks_2 : decode cX9_mixBooks 2 = .ok (.iload_n 1, 1) := by decide +kernel
theorem dX9_mixBooks_3 : decode cX9_mixBooks 3 = .ok (.iconst 4, 1) := by decide +kernel
theorem dX9_mixBooks_4 : decode cX9_mixBooks 4 = .ok (.if_icmp .ge 64, 3) := by decide +kernel
theorem dX9_mixBooks_7 : decode cX9_mixBooks 7 = .ok (.aload_n 0, 1) := by decide +kernel
theorem dX9_mixBooks_8 : decode cX9_mixBooks 8 = .ok (.getfield 29, 3) := by decide +kernel
theorem dX9_mixBooks_11 : decode cX9_mixBooks 11 = .ok (.iload_n 1, 1) := by decide +kernel
theorem dX9_mixBooks_12 : decode cX9_mixBooks 12 = .ok (.baload, 1) := by decide +kernel
theorem dX9_mixBooks_13 : decode cX9_mixBooks 13 = .ok (.ifCond .ne 10, 3) := by decide +kernel
theorem dX9_mixBooks_16 : decode cX9_mixBooks 16 = .ok (.aload_n 0, 1) := by decide +kernel
theorem dX9_mixBooks_17 : decode cX9_mixBooks 17 = .ok (.ldc2_w 270, 3) := by decide +kernel
theorem dX9_mixBooks_20 : decode cX9_mixBooks 20 = .ok (.invokevirtual 272, 3) := by decide +kernel
theorem dX9_mixBooks_23 : decode cX9_mixBooks 23 = .ok (.iconst 0, 1) := by decide +kernel
theorem dX9_mixBooks_24 : decode cX9_mixBooks 24 = .ok (.istore_n 2, 1) := by decide +kernel
theorem dX9_mixBooks_25 : decode cX9_mixBooks 25 = .ok (.iload_n 2, 1) := by decide +kernel
theorem dX9_mixBooks_26 : decode cX9_mixBooks 26 = .ok (.bipush 7, 2) := by decide +kernel
theorem dX9_mixBooks_28 : decode cX9_mixBooks 28 = .ok (.if_icmp .ge 34, 3) := by decide +kernel
theorem dX9_mixBooks_31 : decode cX9_mixBooks 31 = .ok (.aload_n 0, 1) := by decide +kernel
theorem dX9_mixBooks_32 : decode cX9_mixBooks 32 = .ok (.getfield 29, 3) := by decide +kernel
theorem dX9_mixBooks_35 : decode cX9_mixBooks 35 = .ok (.iload_n 1, 1) := by decide +kernel
theorem dX9_mixBooks_36 : decode cX9_mixBooks 36 = .ok (.baload, 1) := by decide +kernel
theorem dX9_mixBooks_37 : decode cX9_mixBooks 37 = .ok (.ifCond .eq 25, 3) := by decide +kernel
theorem dX9_mixBooks_40 : decode cX9_mixBooks 40 = .ok (.aload_n 0, 1) := by decide +kernel
theorem dX9_mixBooks_41 : decode cX9_mixBooks 41 = .ok (.aload_n 0, 1) := by decide +kernel
theorem dX9_mixBooks_42 : decode cX9_mixBooks 42 = .ok (.getfield 33, 3) := by decide +kernel
theorem dX9_mixBooks_45 : decode cX9_mixBooks 45 = .ok (.bipush 7, 2) := by decide +kernel
theorem dX9_mixBooks_47 : decode cX9_mixBooks 47 = .ok (.iload_n 1, 1) := by decide +kernel
theorem dX9_mixBooks_48 : decode cX9_mixBooks 48 = .ok (.imul, 1) := by decide +kernel
theorem dX9_mixBooks_49 : decode cX9_mixBooks 49 = .ok (.iload_n 2, 1) := by decide +kernel
theorem dX9_mixBooks_50 : decode cX9_mixBooks 50 = .ok (.iadd, 1) := by decide +kernel
theorem dX9_mixBooks_51 : decode cX9_mixBooks 51 = .ok (.iaload, 1) := by decide +kernel
theorem dX9_mixBooks_52 : decode cX9_mixBooks 52 = .ok (.i2l, 1) := by decide +kernel
theorem dX9_mixBooks_53 : decode cX9_mixBooks 53 = .ok (.invokevirtual 272, 3) := by decide +kernel
theorem dX9_mixBooks_56 : decode cX9_mixBooks 56 = .ok (.iinc 2 1, 3) := by decide +kernel
theorem dX9_mixBooks_59 : decode cX9_mixBooks 59 = .ok (.goto (-34), 3) := by decide +kernel
theorem dX9_mixBooks_62 : decode cX9_mixBooks 62 = .ok (.iinc 1 1, 3) := by decide +kernel
theorem dX9_mixBooks_65 : decode cX9_mixBooks 65 = .ok (.goto (-63), 3) := by decide +kernel
theorem dX9_mixBooks_68 : decode cX9_mixBooks 68 = .ok (.iconst 0, 1) := by decide +kernel
theorem dX9_mixBooks_69 : decode cX9_mixBooks 69 = .ok (.istore_n 1, 1) := by decide +kernel
theorem dX9_mixBooks_70 : decode cX9_mixBooks 70 = .ok (.iload_n 1, 1) := by decide +kernel
theorem dX9_mixBooks_71 : decode cX9_mixBooks 71 = .ok (.iconst 4, 1) := by decide +kernel
theorem dX9_mixBooks_72 : decode cX9_mixBooks 72 = .ok (.if_icmp .ge 64, 3) := by decide +kernel
theorem dX9_mixBooks_75 : decode cX9_mixBooks 75 = .ok (.aload_n 0, 1) := by decide +kernel
theorem dX9_mixBooks_76 : decode cX9_mixBooks 76 = .ok (.getfield 36, 3) := by decide +kernel
theorem dX9_mixBooks_79 : decode cX9_mixBooks 79 = .ok (.iload_n 1, 1) := by decide +kernel
theorem dX9_mixBooks_80 : decode cX9_mixBooks 80 = .ok (.baload, 1) := by decide +kernel
theorem dX9_mixBooks_81 : decode cX9_mixBooks 81 = .ok (.ifCond .ne 10, 3) := by decide +kernel
theorem dX9_mixBooks_84 : decode cX9_mixBooks 84 = .ok (.aload_n 0, 1) := by decide +kernel
theorem dX9_mixBooks_85 : decode cX9_mixBooks 85 = .ok (.ldc2_w 270, 3) := by decide +kernel
theorem dX9_mixBooks_88 : decode cX9_mixBooks 88 = .ok (.invokevirtual 272, 3) := by decide +kernel
theorem dX9_mixBooks_91 : decode cX9_mixBooks 91 = .ok (.iconst 0, 1) := by decide +kernel
theorem dX9_mixBooks_92 : decode cX9_mixBooks 92 = .ok (.istore_n 2, 1) := by decide +kernel
theorem dX9_mixBooks_93 : decode cX9_mixBooks 93 = .ok (.iload_n 2, 1) := by decide +kernel
theorem dX9_mixBooks_94 : decode cX9_mixBooks 94 = .ok (.bipush 101, 2) := by decide +kernel
theorem dX9_mixBooks_96 : decode cX9_mixBooks 96 = .ok (.if_icmp .ge 34, 3) := by decide +kernel
theorem dX9_mixBooks_99 : decode cX9_mixBooks 99 = .ok (.aload_n 0, 1) := by decide +kernel
theorem dX9_mixBooks_100 : decode cX9_mixBooks 100 = .ok (.getfield 36, 3) := by decide +kernel
theorem dX9_mixBooks_103 : decode cX9_mixBooks 103 = .ok (.iload_n 1, 1) := by decide +kernel
theorem dX9_mixBooks_104 : decode cX9_mixBooks 104 = .ok (.baload, 1) := by decide +kernel
theorem dX9_mixBooks_105 : decode cX9_mixBooks 105 = .ok (.ifCond .eq 25, 3) := by decide +kernel
theorem dX9_mixBooks_108 : decode cX9_mixBooks 108 = .ok (.aload_n 0, 1) := by decide +kernel
theorem dX9_mixBooks_109 : decode cX9_mixBooks 109 = .ok (.aload_n 0, 1) := by decide +kernel
theorem dX9_mixBooks_110 : decode cX9_mixBooks 110 = .ok (.getfield 39, 3) := by decide +kernel
theorem dX9_mixBooks_113 : decode cX9_mixBooks 113 = .ok (.bipush 101, 2) := by decide +kernel
theorem dX9_mixBooks_115 : decode cX9_mixBooks 115 = .ok (.iload_n 1, 1) := by decide +kernel
theorem dX9_mixBooks_116 : decode cX9_mixBooks 116 = .ok (.imul, 1) := by decide +kernel
theorem dX9_mixBooks_117 : decode cX9_mixBooks 117 = .ok (.iload_n 2, 1) := by decide +kernel
theorem dX9_mixBooks_118 : decode cX9_mixBooks 118 = .ok (.iadd, 1) := by decide +kernel
theorem dX9_mixBooks_119 : decode cX9_mixBooks 119 = .ok (.iaload, 1) := by decide +kernel
theorem dX9_mixBooks_120 : decode cX9_mixBooks 120 = .ok (.i2l, 1) := by decide +kernel
theorem dX9_mixBooks_121 : decode cX9_mixBooks 121 = .ok (.invokevirtual 272, 3) := by decide +kernel
theorem dX9_mixBooks_124 : decode cX9_mixBooks 124 = .ok (.iinc 2 1, 3) := by decide +kernel
theorem dX9_mixBooks_127 : decode cX9_mixBooks 127 = .ok (.goto (-34), 3) := by decide +kernel
theorem dX9_mixBooks_130 : decode cX9_mixBooks 130 = .ok (.iinc 1 1, 3) := by decide +kernel
theorem dX9_mixBooks_133 : decode cX9_mixBooks 133 = .ok (.goto (-63), 3) := by decide +kernel
theorem dX9_mixBooks_136 : decode cX9_mixBooks 136 = .ok (.aload_n 0, 1) := by decide +kernel
theorem dX9_mixBooks_137 : decode cX9_mixBooks 137 = .ok (.getfield 54, 3) := by decide +kernel
theorem dX9_mixBooks_140 : decode cX9_mixBooks 140 = .ok (.iconst 0, 1) := by decide +kernel
theorem dX9_mixBooks_141 : decode cX9_mixBooks 141 = .ok (.baload, 1) := by decide +kernel
theorem dX9_mixBooks_142 : decode cX9_mixBooks 142 = .ok (.ifCond .ne 10, 3) := by decide +kernel
theorem dX9_mixBooks_145 : decode cX9_mixBooks 145 = .ok (.aload_n 0, 1) := by decide +kernel
theorem dX9_mixBooks_146 : decode cX9_mixBooks 146 = .ok (.ldc2_w 270, 3) := by decide +kernel
theorem dX9_mixBooks_149 : decode cX9_mixBooks 149 = .ok (.invokevirtual 272, 3) := by decide +kernel
theorem dX9_mixBooks_152 : decode cX9_mixBooks 152 = .ok (.iconst 0, 1) := by decide +kernel
theorem dX9_mixBooks_153 : decode cX9_mixBooks 153 = .ok (.istore_n 1, 1) := by decide +kernel
theorem dX9_mixBooks_154 : decode cX9_mixBooks 154 = .ok (.iload_n 1, 1) := by decide +kernel
theorem dX9_mixBooks_155 : decode cX9_mixBooks 155 = .ok (.bipush 7, 2) := by decide +kernel
theorem dX9_mixBooks_157 : decode cX9_mixBooks 157 = .ok (.if_icmp .ge 28, 3) := by decide +kernel
theorem dX9_mixBooks_160 : decode cX9_mixBooks 160 = .ok (.aload_n 0, 1) := by decide +kernel
theorem dX9_mixBooks_161 : decode cX9_mixBooks 161 = .ok (.getfield 54, 3) := by decide +kernel
theorem dX9_mixBooks_164 : decode cX9_mixBooks 164 = .ok (.iconst 0, 1) := by decide +kernel
theorem dX9_mixBooks_165 : decode cX9_mixBooks 165 = .ok (.baload, 1) := by decide +kernel
theorem dX9_mixBooks_166 : decode cX9_mixBooks 166 = .ok (.ifCond .eq 19, 3) := by decide +kernel
theorem dX9_mixBooks_169 : decode cX9_mixBooks 169 = .ok (.aload_n 0, 1) := by decide +kernel
theorem dX9_mixBooks_170 : decode cX9_mixBooks 170 = .ok (.aload_n 0, 1) := by decide +kernel
theorem dX9_mixBooks_171 : decode cX9_mixBooks 171 = .ok (.iload_n 1, 1) := by decide +kernel
theorem dX9_mixBooks_172 : decode cX9_mixBooks 172 = .ok (.invokevirtual 197, 3) := by decide +kernel
theorem dX9_mixBooks_175 : decode cX9_mixBooks 175 = .ok (.i2l, 1) := by decide +kernel
theorem dX9_mixBooks_176 : decode cX9_mixBooks 176 = .ok (.invokevirtual 272, 3) := by decide +kernel
theorem dX9_mixBooks_179 : decode cX9_mixBooks 179 = .ok (.iinc 1 1, 3) := by decide +kernel
theorem dX9_mixBooks_182 : decode cX9_mixBooks 182 = .ok (.goto (-28), 3) := by decide +kernel
theorem dX9_mixBooks_185 : decode cX9_mixBooks 185 = .ok (.return_, 1) := by decide +kernel
theorem dX9_digest_0 : decode cX9_digest 0 = .ok (.aload_n 0, 1) := by decide +kernel
theorem dX9_digest_1 : decode cX9_digest 1 = .ok (.ldc2_w 276, 3) := by decide +kernel
theorem dX9_digest_4 : decode cX9_digest 4 = .ok (.putfield 267, 3) := by decide +kernel
theorem dX9_digest_7 : decode cX9_digest 7 = .ok (.iconst 0, 1) := by decide +kernel
theorem dX9_digest_8 : decode cX9_digest 8 = .ok (.istore_n 1, 1) := by decide +kernel
theorem dX9_digest_9 : decode cX9_digest 9 = .ok (.iload_n 1, 1) := by decide +kernel
theorem dX9_digest_10 : decode cX9_digest 10 = .ok (.bipush 7, 2) := by decide +kernel
theorem dX9_digest_12 : decode cX9_digest 12 = .ok (.if_icmp .ge 19, 3) := by decide +kernel
theorem dX9_digest_15 : decode cX9_digest 15 = .ok (.aload_n 0, 1) := by decide +kernel
theorem dX9_digest_16 : decode cX9_digest 16 = .ok (.aload_n 0, 1) := by decide +kernel
theorem dX9_digest_17 : decode cX9_digest 17 = .ok (.iload_n 1, 1) := by decide +kernel
theorem dX9_digest_18 : decode cX9_digest 18 = .ok (.invokevirtual 262, 3) := by decide +kernel
theorem dX9_digest_21 : decode cX9_digest 21 = .ok (.i2l, 1) := by decide +kernel
theorem dX9_digest_22 : decode cX9_digest 22 = .ok (.invokevirtual 272, 3) := by decide +kernel
theorem dX9_digest_25 : decode cX9_digest 25 = .ok (.iinc 1 1, 3) := by decide +kernel
theorem dX9_digest_28 : decode cX9_digest 28 = .ok (.goto (-19), 3) := by decide +kernel
theorem dX9_digest_31 : decode cX9_digest 31 = .ok (.aload_n 0, 1) := by decide +kernel
theorem dX9_digest_32 : decode cX9_digest 32 = .ok (.invokevirtual 278, 3) := by decide +kernel
theorem dX9_digest_35 : decode cX9_digest 35 = .ok (.iconst 0, 1) := by decide +kernel
theorem dX9_digest_36 : decode cX9_digest 36 = .ok (.istore_n 1, 1) := by decide +kernel
theorem dX9_digest_37 : decode cX9_digest 37 = .ok (.iload_n 1, 1) := by decide +kernel
theorem dX9_digest_38 : decode cX9_digest 38 = .ok (.bipush 6, 2) := by decide +kernel
theorem dX9_digest_40 : decode cX9_digest 40 = .ok (.if_icmp .ge 49, 3) := by decide +kernel
theorem dX9_digest_43 : decode cX9_digest 43 = .ok (.aload_n 0, 1) := by decide +kernel
theorem dX9_digest_44 : decode cX9_digest 44 = .ok (.aload_n 0, 1) := by decide +kernel
theorem dX9_digest_45 : decode cX9_digest 45 = .ok (.getfield 13, 3) := by decide +kernel
theorem dX9_digest_48 : decode cX9_digest 48 = .ok (.iload_n 1, 1) := by decide +kernel
theorem dX9_digest_49 : decode cX9_digest 49 = .ok (.iaload, 1) := by decide +kernel
theorem dX9_digest_50 : decode cX9_digest 50 = .ok (.i2l, 1) := by decide +kernel
theorem dX9_digest_51 : decode cX9_digest 51 = .ok (.invokevirtual 272, 3) := by decide +kernel
theorem dX9_digest_54 : decode cX9_digest 54 = .ok (.iconst 0, 1) := by decide +kernel
theorem dX9_digest_55 : decode cX9_digest 55 = .ok (.istore_n 2, 1) := by decide +kernel
theorem dX9_digest_56 : decode cX9_digest 56 = .ok (.iload_n 2, 1) := by decide +kernel
theorem dX9_digest_57 : decode cX9_digest 57 = .ok (.aload_n 0, 1) := by decide +kernel
theorem dX9_digest_58 : decode cX9_digest 58 = .ok (.getfield 13, 3) := by decide +kernel
theorem dX9_digest_61 : decode cX9_digest 61 = .ok (.iload_n 1, 1) := by decide +kernel
theorem dX9_digest_62 : decode cX9_digest 62 = .ok (.iaload, 1) := by decide +kernel
theorem dX9_digest_63 : decode cX9_digest 63 = .ok (.if_icmp .ge 20, 3) := by decide +kernel
theorem dX9_digest_66 : decode cX9_digest 66 = .ok (.aload_n 0, 1) := by decide +kernel
theorem dX9_digest_67 : decode cX9_digest 67 = .ok (.aload_n 0, 1) := by decide +kernel
theorem dX9_digest_68 : decode cX9_digest 68 = .ok (.iload_n 1, 1) := by decide +kernel
theorem dX9_digest_69 : decode cX9_digest 69 = .ok (.iload_n 2, 1) := by decide +kernel
theorem dX9_digest_70 : decode cX9_digest 70 = .ok (.invokevirtual 98, 3) := by decide +kernel
theorem dX9_digest_73 : decode cX9_digest 73 = .ok (.i2l, 1) := by decide +kernel
theorem dX9_digest_74 : decode cX9_digest 74 = .ok (.invokevirtual 272, 3) := by decide +kernel
theorem dX9_digest_77 : decode cX9_digest 77 = .ok (.iinc 2 1, 3) := by decide +kernel
theorem dX9_digest_80 : decode cX9_digest 80 = .ok (.goto (-24), 3) := by decide +kernel
theorem dX9_digest_83 : decode cX9_digest 83 = .ok (.iinc 1 1, 3) := by decide +kernel
theorem dX9_digest_86 : decode cX9_digest 86 = .ok (.goto (-49), 3) := by decide +kernel
theorem dX9_digest_89 : decode cX9_digest 89 = .ok (.iconst 0, 1) := by decide +kernel
theorem dX9_digest_90 : decode cX9_digest 90 = .ok (.istore_n 1, 1) := by decide +kernel
theorem dX9_digest_91 : decode cX9_digest 91 = .ok (.iload_n 1, 1) := by decide +kernel
theorem dX9_digest_92 : decode cX9_digest 92 = .ok (.iconst 4, 1) := by decide +kernel
theorem dX9_digest_93 : decode cX9_digest 93 = .ok (.if_icmp .ge 49, 3) := by decide +kernel
theorem dX9_digest_96 : decode cX9_digest 96 = .ok (.aload_n 0, 1) := by decide +kernel
theorem dX9_digest_97 : decode cX9_digest 97 = .ok (.aload_n 0, 1) := by decide +kernel
theorem dX9_digest_98 : decode cX9_digest 98 = .ok (.getfield 22, 3) := by decide +kernel
theorem dX9_digest_101 : decode cX9_digest 101 = .ok (.iload_n 1, 1) := by decide +kernel
theorem dX9_digest_102 : decode cX9_digest 102 = .ok (.iaload, 1) := by decide +kernel
theorem dX9_digest_103 : decode cX9_digest 103 = .ok (.i2l, 1) := by decide +kernel
theorem dX9_digest_104 : decode cX9_digest 104 = .ok (.invokevirtual 272, 3) := by decide +kernel
theorem dX9_digest_107 : decode cX9_digest 107 = .ok (.iconst 0, 1) := by decide +kernel
theorem dX9_digest_108 : decode cX9_digest 108 = .ok (.istore_n 2, 1) := by decide +kernel
theorem dX9_digest_109 : decode cX9_digest 109 = .ok (.iload_n 2, 1) := by decide +kernel
theorem dX9_digest_110 : decode cX9_digest 110 = .ok (.aload_n 0, 1) := by decide +kernel
theorem dX9_digest_111 : decode cX9_digest 111 = .ok (.getfield 22, 3) := by decide +kernel
theorem dX9_digest_114 : decode cX9_digest 114 = .ok (.iload_n 1, 1) := by decide +kernel
theorem dX9_digest_115 : decode cX9_digest 115 = .ok (.iaload, 1) := by decide +kernel
theorem dX9_digest_116 : decode cX9_digest 116 = .ok (.if_icmp .ge 20, 3) := by decide +kernel
theorem dX9_digest_119 : decode cX9_digest 119 = .ok (.aload_n 0, 1) := by decide +kernel
theorem dX9_digest_120 : decode cX9_digest 120 = .ok (.aload_n 0, 1) := by decide +kernel
theorem dX9_digest_121 : decode cX9_digest 121 = .ok (.iload_n 1, 1) := by decide +kernel
theorem dX9_digest_122 : decode cX9_digest 122 = .ok (.iload_n 2, 1) := by decide +kernel
theorem dX9_digest_123 : decode cX9_digest 123 = .ok (.invokevirtual 111, 3) := by decide +kernel
theorem dX9_digest_126 : decode cX9_digest 126 = .ok (.i2l, 1) := by decide +kernel
theorem dX9_digest_127 : decode cX9_digest 127 = .ok (.invokevirtual 272, 3) := by decide +kernel
theorem dX9_digest_130 : decode cX9_digest 130 = .ok (.iinc 2 1, 3) := by decide +kernel
theorem dX9_digest_133 : decode cX9_digest 133 = .ok (.goto (-24), 3) := by decide +kernel
theorem dX9_digest_136 : decode cX9_digest 136 = .ok (.iinc 1 1, 3) := by decide +kernel
theorem dX9_digest_139 : decode cX9_digest 139 = .ok (.goto (-48), 3) := by decide +kernel
theorem dX9_digest_142 : decode cX9_digest 142 = .ok (.aload_n 0, 1) := by decide +kernel
theorem dX9_digest_143 : decode cX9_digest 143 = .ok (.getfield 267, 3) := by decide +kernel
theorem dX9_digest_146 : decode cX9_digest 146 = .ok (.lreturn, 1) := by decide +kernel
theorem dJ6_bitCount_0f7a4_0 : decode cJ6_bitCount_0f7a4 0 = .ok (.iload_n 0, 1) := by decide +kernel
theorem dJ6_bitCount_0f7a4_1 : decode cJ6_bitCount_0f7a4 1 = .ok (.iload_n 0, 1) := by decide +kernel
theorem dJ6_bitCount_0f7a4_2 : decode cJ6_bitCount_0f7a4 2 = .ok (.iconst 1, 1) := by decide +kernel
theorem dJ6_bitCount_0f7a4_3 : decode cJ6_bitCount_0f7a4 3 = .ok (.iushr, 1) := by decide +kernel
end
section
theorem dJ6_bitCount_0f7a4_4 : decode cJ6_bitCount_0f7a4 4 = .ok (.ldc_w 265, 3) := by decide +kernel
theorem dJ6_bitCount_0f7a4_7 : decode cJ6_bitCount_0f7a4 7 = .ok (.iand, 1) := by decide +kernel
theorem dJ6_bitCount_0f7a4_8 : decode cJ6_bitCount_0f7a4 8 = .ok (.isub, 1) := by decide +kernel
theorem dJ6_bitCount_0f7a4_9 : decode cJ6_bitCount_0f7a4 9 = .ok (.istore_n 0, 1) := by decide +kernel
theorem dJ6_bitCount_0f7a4_10 : decode cJ6_bitCount_0f7a4 10 = .ok (.iload_n 0, 1) := by decide +kernel
theorem dJ6_bitCount_0f7a4_11 : decode cJ6_bitCount_0f7a4 11 = .ok (.ldc_w 266, 3) := by decide +kernel
theorem dJ6_bitCount_0f7a4_14 : decode cJ6_bitCount_0f7a4 14 = .ok (.iand, 1) := by decide +kernel
theorem dJ6_bitCount_0f7a4_15 : decode cJ6_bitCount_0f7a4 15 = .ok (.iload_n 0, 1) := by decide +kernel
theorem dJ6_bitCount_0f7a4_16 : decode cJ6_bitCount_0f7a4 16 = .ok (.iconst 2, 1) := by decide +kernel
theorem dJ6_bitCount_0f7a4_17 : decode cJ6_bitCount_0f7a4 17 = .ok (.iushr, 1) := by decide +kernel
theorem dJ6_bitCount_0f7a4_18 : decode cJ6_bitCount_0f7a4 18 = .ok (.ldc_w 266, 3) := by decide +kernel
theorem dJ6_bitCount_0f7a4_21 : decode cJ6_bitCount_0f7a4 21 = .ok (.iand, 1) := by decide +kernel
theorem dJ6_bitCount_0f7a4_22 : decode cJ6_bitCount_0f7a4 22 = .ok (.iadd, 1) := by decide +kernel
theorem dJ6_bitCount_0f7a4_23 : decode cJ6_bitCount_0f7a4 23 = .ok (.istore_n 0, 1) := by decide +kernel
theorem dJ6_bitCount_0f7a4_24 : decode cJ6_bitCount_0f7a4 24 = .ok (.iload_n 0, 1) := by decide +kernel
theorem dJ6_bitCount_0f7a4_25 : decode cJ6_bitCount_0f7a4 25 = .ok (.iload_n 0, 1) := by decide +kernel
theorem dJ6_bitCount_0f7a4_26 : decode cJ6_bitCount_0f7a4 26 = .ok (.iconst 4, 1) := by decide +kernel
theorem dJ6_bitCount_0f7a4_27 : decode cJ6_bitCount_0f7a4 27 = .ok (.iushr, 1) := by decide +kernel
theorem dJ6_bitCount_0f7a4_28 : decode cJ6_bitCount_0f7a4 28 = .ok (.iadd, 1) := by decide +kernel
theorem dJ6_bitCount_0f7a4_29 : decode cJ6_bitCount_0f7a4 29 = .ok (.ldc_w 267, 3) := by decide +kernel
theorem dJ6_bitCount_0f7a4_32 : decode cJ6_bitCount_0f7a4 32 = .ok (.iand, 1) := by decide +kernel
theorem dJ6_bitCount_0f7a4_33 : decode cJ6_bitCount_0f7a4 33 = .ok (.istore_n 0, 1) := by decide +kernel
theorem dJ6_bitCount_0f7a4_34 : decode cJ6_bitCount_0f7a4 34 = .ok (.iload_n 0, 1) := by decide +kernel
theorem dJ6_bitCount_0f7a4_35 : decode cJ6_bitCount_0f7a4 35 = .ok (.iload_n 0, 1) := by decide +kernel
theorem dJ6_bitCount_0f7a4_36 : decode cJ6_bitCount_0f7a4 36 = .ok (.bipush 8, 2) := by decide +kernel
theorem dJ6_bitCount_0f7a4_38 : decode cJ6_bitCount_0f7a4 38 = .ok (.iushr, 1) := by decide +kernel
theorem dJ6_bitCount_0f7a4_39 : decode cJ6_bitCount_0f7a4 39 = .ok (.iadd, 1) := by decide +kernel
theorem dJ6_bitCount_0f7a4_40 : decode cJ6_bitCount_0f7a4 40 = .ok (.istore_n 0, 1) := by decide +kernel
theorem dJ6_bitCount_0f7a4_41 : decode cJ6_bitCount_0f7a4 41 = .ok (.iload_n 0, 1) := by decide +kernel
theorem dJ6_bitCount_0f7a4_42 : decode cJ6_bitCount_0f7a4 42 = .ok (.iload_n 0, 1) := by decide +kernel
theorem dJ6_bitCount_0f7a4_43 : decode cJ6_bitCount_0f7a4 43 = .ok (.bipush 16, 2) := by decide +kernel
theorem dJ6_bitCount_0f7a4_45 : decode cJ6_bitCount_0f7a4 45 = .ok (.iushr, 1) := by decide +kernel
theorem dJ6_bitCount_0f7a4_46 : decode cJ6_bitCount_0f7a4 46 = .ok (.iadd, 1) := by decide +kernel
theorem dJ6_bitCount_0f7a4_47 : decode cJ6_bitCount_0f7a4 47 = .ok (.istore_n 0, 1) := by decide +kernel
theorem dJ6_bitCount_0f7a4_48 : decode cJ6_bitCount_0f7a4 48 = .ok (.iload_n 0, 1) := by decide +kernel
theorem dJ6_bitCount_0f7a4_49 : decode cJ6_bitCount_0f7a4 49 = .ok (.bipush 63, 2) := by decide +kernel
theorem dJ6_bitCount_0f7a4_51 : decode cJ6_bitCount_0f7a4 51 = .ok (.iand, 1) := by decide +kernel
theorem dJ6_bitCount_0f7a4_52 : decode cJ6_bitCount_0f7a4 52 = .ok (.ireturn, 1) := by decide +kernel
theorem dJ13_bitCount_95d88_0 : decode cJ13_bitCount_95d88 0 = .ok (.lload_n 0, 1) := by decide +kernel
theorem dJ13_bitCount_95d88_1 : decode cJ13_bitCount_95d88 1 = .ok (.lload_n 0, 1) := by decide +kernel
theorem dJ13_bitCount_95d88_2 : decode cJ13_bitCount_95d88 2 = .ok (.iconst 1, 1) := by decide +kernel
theorem dJ13_bitCount_95d88_3 : decode cJ13_bitCount_95d88 3 = .ok (.lushr, 1) := by decide +kernel
theorem dJ13_bitCount_95d88_4 : decode cJ13_bitCount_95d88 4 = .ok (.ldc2_w 314, 3) := by decide +kernel
theorem dJ13_bitCount_95d88_7 : decode cJ13_bitCount_95d88 7 = .ok (.land, 1) := by decide +kernel
theorem dJ13_bitCount_95d88_8 : decode cJ13_bitCount_95d88 8 = .ok (.lsub, 1) := by decide +kernel
theorem dJ13_bitCount_95d88_9 : decode cJ13_bitCount_95d88 9 = .ok (.lstore_n 0, 1) := by decide +kernel
theorem dJ13_bitCount_95d88_10 : decode cJ13_bitCount_95d88 10 = .ok (.lload_n 0, 1) := by decide +kernel
theorem dJ13_bitCount_95d88_11 : decode cJ13_bitCount_95d88 11 = .ok (.ldc2_w 316, 3) := by decide +kernel
theorem dJ13_bitCount_95d88_14 : decode cJ13_bitCount_95d88 14 = .ok (.land, 1) := by decide +kernel
theorem dJ13_bitCount_95d88_15 : decode cJ13_bitCount_95d88 15 = .ok (.lload_n 0, 1) := by decide +kernel
theorem dJ13_bitCount_95d88_16 : decode cJ13_bitCount_95d88 16 = .ok (.iconst 2, 1) := by decide +kernel
theorem dJ13_bitCount_95d88_17 : decode cJ13_bitCount_95d88 17 = .ok (.lushr, 1) := by decide +kernel
theorem dJ13_bitCount_95d88_18 : decode cJ13_bitCount_95d88 18 = .ok (.ldc2_w 316, 3) := by decide +kernel
theorem dJ13_bitCount_95d88_21 : decode cJ13_bitCount_95d88 21 = .ok (.land, 1) := by decide +kernel
theorem dJ13_bitCount_95d88_22 : decode cJ13_bitCount_95d88 22 = .ok (.ladd, 1) := by decide +kernel
theorem dJ13_bitCount_95d88_23 : decode cJ13_bitCount_95d88 23 = .ok (.lstore_n 0, 1) := by decide +kernel
theorem dJ13_bitCount_95d88_24 : decode cJ13_bitCount_95d88 24 = .ok (.lload_n 0, 1) := by decide +kernel
theorem dJ13_bitCount_95d88_25 : decode cJ13_bitCount_95d88 25 = .ok (.lload_n 0, 1) := by decide +kernel
theorem dJ13_bitCount_95d88_26 : decode cJ13_bitCount_95d88 26 = .ok (.iconst 4, 1) := by decide +kernel
theorem dJ13_bitCount_95d88_27 : decode cJ13_bitCount_95d88 27 = .ok (.lushr, 1) := by decide +kernel
theorem dJ13_bitCount_95d88_28 : decode cJ13_bitCount_95d88 28 = .ok (.ladd, 1) := by decide +kernel
theorem dJ13_bitCount_95d88_29 : decode cJ13_bitCount_95d88 29 = .ok (.ldc2_w 318, 3) := by decide +kernel
theorem dJ13_bitCount_95d88_32 : decode cJ13_bitCount_95d88 32 = .ok (.land, 1) := by decide +kernel
theorem dJ13_bitCount_95d88_33 : decode cJ13_bitCount_95d88 33 = .ok (.lstore_n 0, 1) := by decide +kernel
theorem dJ13_bitCount_95d88_34 : decode cJ13_bitCount_95d88 34 = .ok (.lload_n 0, 1) := by decide +kernel
theorem dJ13_bitCount_95d88_35 : decode cJ13_bitCount_95d88 35 = .ok (.lload_n 0, 1) := by decide +kernel
theorem dJ13_bitCount_95d88_36 : decode cJ13_bitCount_95d88 36 = .ok (.bipush 8, 2) := by decide +kernel
theorem dJ13_bitCount_95d88_38 : decode cJ13_bitCount_95d88 38 = .ok (.lushr, 1) := by decide +kernel
theorem dJ13_bitCount_95d88_39 : decode cJ13_bitCount_95d88 39 = .ok (.ladd, 1) := by decide +kernel
theorem dJ13_bitCount_95d88_40 : decode cJ13_bitCount_95d88 40 = .ok (.lstore_n 0, 1) := by decide +kernel
theorem dJ13_bitCount_95d88_41 : decode cJ13_bitCount_95d88 41 = .ok (.lload_n 0, 1) := by decide +kernel
theorem dJ13_bitCount_95d88_42 : decode cJ13_bitCount_95d88 42 = .ok (.lload_n 0, 1) := by decide +kernel
theorem dJ13_bitCount_95d88_43 : decode cJ13_bitCount_95d88 43 = .ok (.bipush 16, 2) := by decide +kernel
theorem dJ13_bitCount_95d88_45 : decode cJ13_bitCount_95d88 45 = .ok (.lushr, 1) := by decide +kernel
theorem dJ13_bitCount_95d88_46 : decode cJ13_bitCount_95d88 46 = .ok (.ladd, 1) := by decide +kernel
theorem dJ13_bitCount_95d88_47 : decode cJ13_bitCount_95d88 47 = .ok (.lstore_n 0, 1) := by decide +kernel
theorem dJ13_bitCount_95d88_48 : decode cJ13_bitCount_95d88 48 = .ok (.lload_n 0, 1) := by decide +kernel
theorem dJ13_bitCount_95d88_49 : decode cJ13_bitCount_95d88 49 = .ok (.lload_n 0, 1) := by decide +kernel
theorem dJ13_bitCount_95d88_50 : decode cJ13_bitCount_95d88 50 = .ok (.bipush 32, 2) := by decide +kernel
theorem dJ13_bitCount_95d88_52 : decode cJ13_bitCount_95d88 52 = .ok (.lushr, 1) := by decide +kernel
theorem dJ13_bitCount_95d88_53 : decode cJ13_bitCount_95d88 53 = .ok (.ladd, 1) := by decide +kernel
theorem dJ13_bitCount_95d88_54 : decode cJ13_bitCount_95d88 54 = .ok (.lstore_n 0, 1) := by decide +kernel
theorem dJ13_bitCount_95d88_55 : decode cJ13_bitCount_95d88 55 = .ok (.lload_n 0, 1) := by decide +kernel
theorem dJ13_bitCount_95d88_56 : decode cJ13_bitCount_95d88 56 = .ok (.l2i, 1) := by decide +kernel
theorem dJ13_bitCount_95d88_57 : decode cJ13_bitCount_95d88 57 = .ok (.bipush 127, 2) := by decide +kernel
theorem dJ13_bitCount_95d88_59 : decode cJ13_bitCount_95d88 59 = .ok (.iand, 1) := by decide +kernel
theorem dJ13_bitCount_95d88_60 : decode cJ13_bitCount_95d88 60 = .ok (.ireturn, 1) := by decide +kernel
theorem dJ9_floorMod_7cf53_0 : decode cJ9_floorMod_7cf53 0 = .ok (.iload_n 0, 1) := by decide +kernel
theorem dJ9_floorMod_7cf53_1 : decode cJ9_floorMod_7cf53 1 = .ok (.iload_n 1, 1) := by decide +kernel
theorem dJ9_floorMod_7cf53_2 : decode cJ9_floorMod_7cf53 2 = .ok (.irem, 1) := by decide +kernel
theorem dJ9_floorMod_7cf53_3 : decode cJ9_floorMod_7cf53 3 = .ok (.istore_n 2, 1) := by decide +kernel
theorem dJ9_floorMod_7cf53_4 : decode cJ9_floorMod_7cf53 4 = .ok (.iload_n 0, 1) := by decide +kernel
theorem dJ9_floorMod_7cf53_5 : decode cJ9_floorMod_7cf53 5 = .ok (.iload_n 1, 1) := by decide +kernel
theorem dJ9_floorMod_7cf53_6 : decode cJ9_floorMod_7cf53 6 = .ok (.ixor, 1) := by decide +kernel
theorem dJ9_floorMod_7cf53_7 : decode cJ9_floorMod_7cf53 7 = .ok (.ifCond .ge 11, 3) := by decide +kernel
theorem dJ9_floorMod_7cf53_10 : decode cJ9_floorMod_7cf53 10 = .ok (.iload_n 2, 1) := by decide +kernel
theorem dJ9_floorMod_7cf53_11 : decode cJ9_floorMod_7cf53 11 = .ok (.ifCond .eq 7, 3) := by decide +kernel
theorem dJ9_floorMod_7cf53_14 : decode cJ9_floorMod_7cf53 14 = .ok (.iload_n 2, 1) := by decide +kernel
theorem dJ9_floorMod_7cf53_15 : decode cJ9_floorMod_7cf53 15 = .ok (.iload_n 1, 1) := by decide +kernel
theorem dJ9_floorMod_7cf53_16 : decode cJ9_floorMod_7cf53 16 = .ok (.iadd, 1) := by decide +kernel
theorem dJ9_floorMod_7cf53_17 : decode cJ9_floorMod_7cf53 17 = .ok (.ireturn, 1) := by decide +kernel
theorem dJ9_floorMod_7cf53_18 : decode cJ9_floorMod_7cf53 18 = .ok (.iload_n 2, 1) := by decide +kernel
theorem dJ9_floorMod_7cf53_19 : decode cJ9_floorMod_7cf53 19 = .ok (.ireturn, 1) := by decide +kernel
theorem dJ9_abs_0f7a4_0 : decode cJ9_abs_0f7a4 0 = .ok (.iload_n 0, 1) := by decide +kernel
theorem dJ9_abs_0f7a4_1 : decode cJ9_abs_0f7a4 1 = .ok (.ifCond .ge 8, 3) := by decide +kernel
theorem dJ9_abs_0f7a4_4 : decode cJ9_abs_0f7a4 4 = .ok (.iload_n 0, 1) := by decide +kernel
theorem dJ9_abs_0f7a4_5 : decode cJ9_abs_0f7a4 5 = .ok (.ineg, 1) := by decide +kernel
theorem dJ9_abs_0f7a4_6 : decode cJ9_abs_0f7a4 6 = .ok (.goto 4, 3) := by decide +kernel
theorem dJ9_abs_0f7a4_9 : decode cJ9_abs_0f7a4 9 = .ok (.iload_n 0, 1) := by decide +kernel
theorem dJ9_abs_0f7a4_10 : decode cJ9_abs_0f7a4 10 = .ok (.ireturn, 1) := by decide +kernel
theorem dJ9_max_7cf53_0 : decode cJ9_max_7cf53 0 = .ok (.iload_n 0, 1) := by decide +kernel
theorem dJ9_max_7cf53_1 : decode cJ9_max_7cf53 1 = .ok (.iload_n 1, 1) := by decide +kernel
theorem dJ9_max_7cf53_2 : decode cJ9_max_7cf53 2 = .ok (.if_icmp .lt 7, 3) := by decide +kernel
theorem dJ9_max_7cf53_5 : decode cJ9_max_7cf53 5 = .ok (.iload_n 0, 1) := by decide +kernel
theorem dJ9_max_7cf53_6 : decode cJ9_max_7cf53 6 = .ok (.goto 4, 3) := by decide +kernel
theorem dJ9_max_7cf53_9 : decode cJ9_max_7cf53 9 = .ok (.iload_n 1, 1) := by decide +kernel
theorem dJ9_max_7cf53_10 : decode cJ9_max_7cf53 10 = .ok (.ireturn, 1) := by decide +kernel
theorem dJ9_min_7cf53_0 : decode cJ9_min_7cf53 0 = .ok (.iload_n 0, 1) := by decide +kernel
theorem dJ9_min_7cf53_1 : decode cJ9_min_7cf53 1 = .ok (.iload_n 1, 1) := by decide +kernel
theorem dJ9_min_7cf53_2 : decode cJ9_min_7cf53 2 = .ok (.if_icmp .gt 7, 3) := by decide +kernel
theorem dJ9_min_7cf53_5 : decode cJ9_min_7cf53 5 = .ok (.iload_n 0, 1) := by decide +kernel
theorem dJ9_min_7cf53_6 : decode cJ9_min_7cf53 6 = .ok (.goto 4, 3) := by decide +kernel
theorem dJ9_min_7cf53_9 : decode cJ9_min_7cf53 9 = .ok (.iload_n 1, 1) := by decide +kernel
theorem dJ9_min_7cf53_10 : decode cJ9_min_7cf53 10 = .ok (.ireturn, 1) := by decide +kernel
theorem dJ7_rangeCheck_23922_0 : decode cJ7_rangeCheck_23922 0 = .ok (.iload_n 1, 1) := by decide +kernel
theorem dJ7_rangeCheck_23922_1 : decode cJ7_rangeCheck_23922 1 = .ok (.iload_n 2, 1) := by decide +kernel
theorem dJ7_rangeCheck_23922_2 : decode cJ7_rangeCheck_23922 2 = .ok (.if_icmp .le 44, 3) := by decide +kernel
theorem dJ7_rangeCheck_23922_5 : decode cJ7_rangeCheck_23922 5 = .ok (.new 43, 3) := by decide +kernel
theorem dJ7_rangeCheck_23922_8 : decode cJ7_rangeCheck_23922 8 = .ok (.dup, 1) := by decide +kernel
theorem dJ7_rangeCheck_23922_9 : decode cJ7_rangeCheck_23922 9 = .ok (.new 45, 3) := by decide +kernel
theorem dJ7_rangeCheck_23922_12 : decode cJ7_rangeCheck_23922 12 = .ok (.dup, 1) := by decide +kernel
theorem dJ7_rangeCheck_23922_13 : decode cJ7_rangeCheck_23922 13 = .ok (.invokespecial 47, 3) := by decide +kernel
theorem dJ7_rangeCheck_23922_16 : decode cJ7_rangeCheck_23922 16 = .ok (.ldc 48, 2) := by decide +kernel
theorem dJ7_rangeCheck_23922_18 : decode cJ7_rangeCheck_23922 18 = .ok (.invokevirtual 50, 3) := by decide +kernel
theorem dJ7_rangeCheck_23922_21 : decode cJ7_rangeCheck_23922 21 = .ok (.iload_n 1, 1) := by decide +kernel
theorem dJ7_rangeCheck_23922_22 : decode cJ7_rangeCheck_23922 22 = .ok (.invokevirtual 54, 3) := by decide +kernel
theorem dJ7_rangeCheck_23922_25 : decode cJ7_rangeCheck_23922 25 = .ok (.ldc 57, 2) := by decide +kernel
theorem dJ7_rangeCheck_23922_27 : decode cJ7_rangeCheck_23922 27 = .ok (.invokevirtual 50, 3) := by decide +kernel
theorem dJ7_rangeCheck_23922_30 : decode cJ7_rangeCheck_23922 30 = .ok (.iload_n 2, 1) := by decide +kernel
theorem dJ7_rangeCheck_23922_31 : decode cJ7_rangeCheck_23922 31 = .ok (.invokevirtual 54, 3) := by decide +kernel
theorem dJ7_rangeCheck_23922_34 : decode cJ7_rangeCheck_23922 34 = .ok (.ldc 59, 2) := by decide +kernel
theorem dJ7_rangeCheck_23922_36 : decode cJ7_rangeCheck_23922 36 = .ok (.invokevirtual 50, 3) := by decide +kernel
theorem dJ7_rangeCheck_23922_39 : decode cJ7_rangeCheck_23922 39 = .ok (.invokevirtual 61, 3) := by decide +kernel
theorem dJ7_rangeCheck_23922_42 : decode cJ7_rangeCheck_23922 42 = .ok (.invokespecial 65, 3) := by decide +kernel
theorem dJ7_rangeCheck_23922_45 : decode cJ7_rangeCheck_23922 45 = .ok (.athrow, 1) := by decide +kernel
theorem dJ7_rangeCheck_23922_46 : decode cJ7_rangeCheck_23922 46 = .ok (.iload_n 1, 1) := by decide +kernel
theorem dJ7_rangeCheck_23922_47 : decode cJ7_rangeCheck_23922 47 = .ok (.ifCond .ge 12, 3) := by decide +kernel
theorem dJ7_rangeCheck_23922_50 : decode cJ7_rangeCheck_23922 50 = .ok (.new 68, 3) := by decide +kernel
theorem dJ7_rangeCheck_23922_53 : decode cJ7_rangeCheck_23922 53 = .ok (.dup, 1) := by decide +kernel
theorem dJ7_rangeCheck_23922_54 : decode cJ7_rangeCheck_23922 54 = .ok (.iload_n 1, 1) := by decide +kernel
theorem dJ7_rangeCheck_23922_55 : decode cJ7_rangeCheck_23922 55 = .ok (.invokespecial 70, 3) := by decide +kernel
theorem dJ7_rangeCheck_23922_58 : decode cJ7_rangeCheck_23922 58 = .ok (.athrow, 1) := by decide +kernel
theorem dJ7_rangeCheck_23922_59 : decode cJ7_rangeCheck_23922 59 = .ok (.iload_n 2, 1) := by decide +kernel
theorem dJ7_rangeCheck_23922_60 : decode cJ7_rangeCheck_23922 60 = .ok (.iload_n 0, 1) := by decide +kernel
theorem dJ7_rangeCheck_23922_61 : decode cJ7_rangeCheck_23922 61 = .ok (.if_icmp .le 12, 3) := by decide +kernel
theorem dJ7_rangeCheck_23922_64 : decode cJ7_rangeCheck_23922 64 = .ok (.new 68, 3) := by decide +kernel
theorem dJ7_rangeCheck_23922_67 : decode cJ7_rangeCheck_23922 67 = .ok (.dup, 1) := by decide +kernel
theorem dJ7_rangeCheck_23922_68 : decode cJ7_rangeCheck_23922 68 = .ok (.iload_n 2, 1) := by decide +kernel
theorem dJ7_rangeCheck_23922_69 : decode cJ7_rangeCheck_23922 69 = .ok (.invokespecial 70, 3) := by decide +kernel
theorem dJ7_rangeCheck_23922_72 : decode cJ7_rangeCheck_23922 72 = .ok (.athrow, 1) := by decide +kernel
theorem dJ7_rangeCheck_23922_73 : decode cJ7_rangeCheck_23922 73 = .ok (.return_, 1) := by decide +kernel
theorem dJ7_fill_53178_0 : decode cJ7_fill_53178 0 = .ok (.iconst 0, 1) := by decide +kernel
theorem dJ7_fill_53178_1 : decode cJ7_fill_53178 1 = .ok (.istore_n 2, 1) := by decide +kernel
theorem dJ7_fill_53178_2 : decode cJ7_fill_53178 2 = .ok (.aload_n 0, 1) := by decide +kernel
theorem dJ7_fill_53178_3 : decode cJ7_fill_53178 3 = .ok (.arraylength, 1) := by decide +kernel
theorem dJ7_fill_53178_4 : decode cJ7_fill_53178 4 = .ok (.istore_n 3, 1) := by decide +kernel
theorem dJ7_fill_53178_5 : decode cJ7_fill_53178 5 = .ok (.iload_n 2, 1) := by decide +kernel
theorem dJ7_fill_53178_6 : decode cJ7_fill_53178 6 = .ok (.iload_n 3, 1) := by decide +kernel
theorem dJ7_fill_53178_7 : decode cJ7_fill_53178 7 = .ok (.if_icmp .ge 13, 3) := by decide +kernel
theorem dJ7_fill_53178_10 : decode cJ7_fill_53178 10 = .ok (.aload_n 0, 1) := by decide +kernel
theorem dJ7_fill_53178_11 : decode cJ7_fill_53178 11 = .ok (.iload_n 2, 1) := by decide +kernel
theorem dJ7_fill_53178_12 : decode cJ7_fill_53178 12 = .ok (.iload_n 1, 1) := by decide +kernel
theorem dJ7_fill_53178_13 : decode cJ7_fill_53178 13 = .ok (.iastore, 1) := by decide +kernel
theorem dJ7_fill_53178_14 : decode cJ7_fill_53178 14 = .ok (.iinc 2 1, 3) := by decide +kernel
theorem dJ7_fill_53178_17 : decode cJ7_fill_53178 17 = .ok (.goto (-12), 3) := by decide +kernel
theorem dJ7_fill_53178_20 : decode cJ7_fill_53178 20 = .ok (.return_, 1) := by decide +kernel
theorem dJ7_fill_fda19_0 : decode cJ7_fill_fda19 0 = .ok (.aload_n 0, 1) := by decide +kernel
theorem dJ7_fill_fda19_1 : decode cJ7_fill_fda19 1 = .ok (.arraylength, 1) := by decide +kernel
theorem dJ7_fill_fda19_2 : decode cJ7_fill_fda19 2 = .ok (.iload_n 1, 1) := by decide +kernel
theorem dJ7_fill_fda19_3 : decode cJ7_fill_fda19 3 = .ok (.iload_n 2, 1) := by decide +kernel
theorem dJ7_fill_fda19_4 : decode cJ7_fill_fda19 4 = .ok (.invokestatic 13, 3) := by decide +kernel
theorem dJ7_fill_fda19_7 : decode cJ7_fill_fda19 7 = .ok (.iload_n 1, 1) := by decide +kernel
theorem dJ7_fill_fda19_8 : decode cJ7_fill_fda19 8 = .ok (.istore 4, 2) := by decide +kernel
theorem dJ7_fill_fda19_10 : decode cJ7_fill_fda19 10 = .ok (.iload 4, 2) := by decide +kernel
theorem dJ7_fill_fda19_12 : decode cJ7_fill_fda19 12 = .ok (.iload_n 2, 1) := by decide +kernel
theorem dJ7_fill_fda19_13 : decode cJ7_fill_fda19 13 = .ok (.if_icmp .ge 14, 3) := by decide +kernel
theorem dJ7_fill_fda19_16 : decode cJ7_fill_fda19 16 = .ok (.aload_n 0, 1) := by decide +kernel
theorem dJ7_fill_fda19_17 : decode cJ7_fill_fda19 17 = .ok (.iload 4, 2) := by decide +kernel
theorem dJ7_fill_fda19_19 : decode cJ7_fill_fda19 19 = .ok (.iload_n 3, 1) := by decide +kernel
theorem dJ7_fill_fda19_20 : decode cJ7_fill_fda19 20 = .ok (.iastore, 1) := by decide +kernel
theorem dJ7_fill_fda19_21 : decode cJ7_fill_fda19 21 = .ok (.iinc 4 1, 3) := by decide +kernel
theorem dJ7_fill_fda19_24 : decode cJ7_fill_fda19 24 = .ok (.goto (-14), 3) := by decide +kernel
theorem dJ7_fill_fda19_27 : decode cJ7_fill_fda19 27 = .ok (.return_, 1) := by decide +kernel
theorem dJ7_fill_031fb_0 : decode cJ7_fill_031fb 0 = .ok (.iconst 0, 1) := by decide +kernel
theorem dJ7_fill_031fb_1 : decode cJ7_fill_031fb 1 = .ok (.istore_n 2, 1) := by decide +kernel
theorem dJ7_fill_031fb_2 : decode cJ7_fill_031fb 2 = .ok (.aload_n 0, 1) := by decide +kernel
theorem dJ7_fill_031fb_3 : decode cJ7_fill_031fb 3 = .ok (.arraylength, 1) := by decide +kernel
theorem dJ7_fill_031fb_4 : decode cJ7_fill_031fb 4 = .ok (.istore_n 3, 1) := by decide +kernel
theorem dJ7_fill_031fb_5 : decode cJ7_fill_031fb 5 = .ok (.iload_n 2, 1) := by decide +kernel
theorem dJ7_fill_031fb_6 : decode cJ7_fill_031fb 6 = .ok (.iload_n 3, 1) := by decide +kernel
theorem dJ7_fill_031fb_7 : decode cJ7_fill_031fb 7 = .ok (.if_icmp .ge 13, 3) := by decide +kernel
theorem dJ7_fill_031fb_10 : decode cJ7_fill_031fb 10 = .ok (.aload_n 0, 1) := by decide +kernel
theorem dJ7_fill_031fb_11 : decode cJ7_fill_031fb 11 = .ok (.iload_n 2, 1) := by decide +kernel
theorem dJ7_fill_031fb_12 : decode cJ7_fill_031fb 12 = .ok (.iload_n 1, 1) := by decide +kernel
theorem dJ7_fill_031fb_13 : decode cJ7_fill_031fb 13 = .ok (.bastore, 1) := by decide +kernel
theorem dJ7_fill_031fb_14 : decode cJ7_fill_031fb 14 = .ok (.iinc 2 1, 3) := by decide +kernel
theorem dJ7_fill_031fb_17 : decode cJ7_fill_031fb 17 = .ok (.goto (-12), 3) := by decide +kernel
theorem dJ7_fill_031fb_20 : decode cJ7_fill_031fb 20 = .ok (.return_, 1) := by decide +kernel
end
section
/-! THE STATE: cells are numbered 0 .. 102 (0: the DuckWalk and what it made; 82: the model and what it made); what a cell holds is S.1 cell slot (ints, bytes, booleans) or S.2 cell slot (longs); references never change -/
abbrev dk_S : Type := (Nat → Nat → Int32) × (Nat → Nat → Int64)
def dk_sr (S : dk_S) (k : Nat) (f : Nat → Int32) : dk_S := (fun a => if a = k then f else S.1 a, S.2)
def dk_si (S : dk_S) (k j : Nat) (v : Int32) : dk_S := dk_sr S k (upd (S.1 k) j v)
def dk_sq (S : dk_S) (k : Nat) (f : Nat → Int64) : dk_S := (S.1, fun a => if a = k then f else S.2 a)
def dk_sl (S : dk_S) (k j : Nat) (v : Int64) : dk_S := dk_sq S k (vp_updL (S.2 k) j v)
/-- where the cells are; the classes' numbers and slots; the array classes' numbers -/
abbrev dk_G : Type := (Nat → Nat) × va_G × (Nat → ClassId)
/-- the kinds: 0 .. 9 objects of the class of that number; 50 .. 54 rows of references; 1000 + n: n ints, 2000 + n: n bytes, 3000 + n: n booleans, 4000 + n: n longs -/
def dk_sh : List Nat := [8, 50, 51, 52, 53, 0, 1, 1006, 3, 1100, 54, 4, 1, 1006, 3, 1100, 7, 0, 1, 1006, 3, 1100, 1401, 4200, 0, 1, 1006, 3, 1100, 2, 1006, 5, 1060, 5, 1060, 5, 1060, 5, 1060, 5, 1060, 5, 1060, 6, 2080, 6, 2080, 6, 2080, 6, 2080, 1, 1006, 1, 1006, 1, 1006, 1, 1006, 3, 1100, 3, 1100, 3, 1100, 3, 1100, 0, 1, 1006, 3, 1100, 0, 1, 1006, 3, 1100, 0, 1, 1006, 3, 1100, 9, 1006, 1006, 1360, 1060, 1004, 2320, 3004, 1028, 3004, 1404, 1007, 1101, 1006, 1002, 3004, 1456, 1400, 1401, 3400, 1401]
def dk_kd (k : Nat) : Nat := dk_sh.getD k 99999
/-- an object's fields: 0 an int, 1 a long, 2 + d the cell d behind its own -/
def dk_fts : List (List Nat) := [[3, 5, 0, 0, 0, 0, 0, 0, 0, 0], [3, 0, 0], [0, 0, 0, 0], [3, 0, 0], [3, 5, 0, 0], [3, 0], [3, 0], [3, 0, 0, 0, 0, 8, 9, 1], [3, 4, 5, 6, 7, 12, 13, 18, 26, 31, 32, 0, 0, 1, 1], [0, 3, 0, 1, 1, 4, 5, 6, 7, 8, 9, 10, 11, 12, 0, 0, 0, 13, 14, 15, 0, 0, 16, 0, 0, 0, 0, 0, 0, 0, 17, 18, 19, 20, 0, 0, 0, 0, 21, 22, 1]]
def dk_fl (t : Nat) : List Nat := dk_fts.getD t []
def dk_fv (g : dk_G) (k : Nat) (f : Nat → Int32) (h : Nat → Int64) (t j : Nat) : Value := match t with
  | 0 => .int (f j)
  | 1 => .long (h j)
  | r + 2 => .ref (g.1 (k + r))
def dk_fs (g : dk_G) (k : Nat) (f : Nat → Int32) (h : Nat → Int64) (ts : List Nat) : List Value := ts.mapIdx (fun j t => dk_fv g k f h t j)
def dk_rfs (g : dk_G) (b d : Nat) : Nat → Option Nat := fun i => some (g.1 (b + d * i))
def dk_ce (g : dk_G) (k : Nat) (f : Nat → Int32) (h : Nat → Int64) (t : Nat) : va_E :=
  if t < 10 then .inr (t, dk_fs g k f h (dk_fl t))
  else if t = 50 then .inl (g.2.2 4, 6, .inr (.inr (.inr (.inr (dk_rfs g 31 2)))))
  else if t = 51 then .inl (g.2.2 5, 4, .inr (.inr (.inr (.inr (dk_rfs g 43 2)))))
  else if t = 52 then .inl (g.2.2 6, 4, .inr (.inr (.inr (.inr (dk_rfs g 51 2)))))
  else if t = 53 then .inl (g.2.2 7, 4, .inr (.inr (.inr (.inr (dk_rfs g 59 2)))))
  else if t = 54 then .inl (g.2.2 8, 3, .inr (.inr (.inr (.inr (dk_rfs g 67 5)))))
  else if t < 2000 then .inl (g.2.2 0, t - 1000, .inl f)
  else if t < 3000 then .inl (g.2.2 1, t - 2000, .inl f)
  else if t < 4000 then .inl (g.2.2 2, t - 3000, .inl f)
  else .inl (g.2.2 3, t - 4000, .inr (.inl h))
def dk_cel (g : dk_G) (k : Nat) (f : Nat → Int32) (h : Nat → Int64) : va_E := dk_ce g k f h (dk_kd k)
def dk_wd (g : dk_G) (S : dk_S) : va_W := (List.range 103).map (fun k => (g.1 k, dk_cel g k (S.1 k) (S.2 k)))
def dk_tys (g : dk_G) : List (ClassId × FieldType) := [(g.2.2 0, .int), (g.2.2 1, .byte), (g.2.2 2, .boolean), (g.2.2 3, .long), (g.2.2 4, .object "DuckWalk$Row"), (g.2.2 5, .object "DuckWalk$Script"), (g.2.2 6, .object "DuckWalk$Duck"), (g.2.2 7, .object "DuckWalk$Plank"), (g.2.2 8, .object "DuckWalk$Course")]
def dk_inj (g : dk_G) : Prop := ∀ i j, i < 103 → j < 103 → g.1 i = g.1 j → i = j
def dk_A (g : dk_G) : Nat → Prop := fun q => ∃ k, k < 103 ∧ q = g.1 k
theorem dk_kd_lt {k t : Nat} (h : dk_kd k = t) (ht : t < 99999) : k < 103 := by
  rcases Nat.lt_or_ge k 103 with q | q
  · exact q
  · have : dk_kd k = 99999 := by
      unfold dk_kd
      rw [List.getD_eq_getElem?_getD, List.getElem?_eq_none (by simpa [dk_sh] using q)]
      rfl
    omega
theorem dk_at {g : dk_G} {S : dk_S} {k : Nat} (hk : k < 103) : (dk_wd g S)[k]? = some (g.1 k, dk_cel g k (S.1 k) (S.2 k)) := by
  simp [dk_wd, hk]
theorem dk_addr {g : dk_G} {S : dk_S} {k : Nat} {q : Nat × va_E} (h : (dk_wd g S)[k]? = some q) : k < 103 ∧ q.1 = g.1 k := by
  have hk : k < 103 := by
    have := (List.getElem?_eq_some_iff.mp h).1
    simpa [dk_wd] using this
  rw [dk_at hk] at h
  exact ⟨hk, by rw [← Option.some.inj h]⟩
theorem dk_D {g : dk_G} (hg : dk_inj g) (S : dk_S) : va_D (dk_A g) (dk_wd g S) := by
  refine ⟨fun i j p q hi hj e => ?_, fun k q hk => ?_⟩
  · obtain ⟨a1, a2⟩ := dk_addr hi
    obtain ⟨b1, b2⟩ := dk_addr hj
    exact hg i j a1 b1 (by rw [← a2, ← b2]; exact e)
  · obtain ⟨a1, a2⟩ := dk_addr hk
    exact ⟨k, a1, a2⟩
theorem dk_set {g : dk_G} {S : dk_S} {k : Nat} (hk : k < 103) {f : Nat → Int32} {h : Nat → Int64} {e : va_E} (he : dk_cel g k f h = e) : (dk_wd g S).set k (g.1 k, e) = dk_wd g (fun a => if a = k then f else S.1 a, fun a => if a = k then h else S.2 a) := by
  subst he
  apply List.ext_getElem?
  intro i
  by_cases hi : i = k
  · subst hi
    rw [dk_at hk, List.getElem?_set_self (by simpa [dk_wd] using hk)]
    simp
  · rw [List.getElem?_set_ne (fun h => hi h.symm)]
    simp only [dk_wd, List.getElem?_map]
    cases hr : (List.range 103)[i]? with
    | none => rfl
    | some n =>
      have : n = i := by
        have := List.getElem?_eq_some_iff.mp hr
        obtain ⟨h1, h2⟩ := this
        simpa using h2.symm
      subst this
      simp [hi]
theorem dk_set_r {g : dk_G} {S : dk_S} {k : Nat} (hk : k < 103) {f : Nat → Int32} {e : va_E} (he : dk_cel g k f (S.2 k) = e) : (dk_wd g S).set k (g.1 k, e) = dk_wd g (dk_sr S k f) := by
  rw [dk_set hk he]
  have : (fun a => if a = k then S.2 k else S.2 a) = S.2 := by
    funext a
    by_cases h : a = k
    · simp [h]
    · simp [h]
  rw [this]
  rfl
theorem dk_set_q {g : dk_G} {S : dk_S} {k : Nat} (hk : k < 103) {h : Nat → Int64} {e : va_E} (he : dk_cel g k (S.1 k) h = e) : (dk_wd g S).set k (g.1 k, e) = dk_wd g (dk_sq S k h) := by
  rw [dk_set hk he]
  have : (fun a => if a = k then S.1 k else S.1 a) = S.1 := by
    funext a
    by_cases h : a = k
    · simp [h]
    · simp [h]
  rw [this]
  rfl
/-! objects -/
theorem dk_obj {g : dk_G} {S : dk_S} {k t : Nat} (h : dk_kd k = t) (ht : t < 10) : (dk_wd g S)[k]? = some (g.1 k, .inr (t, dk_fs g k (S.1 k) (S.2 k) (dk_fl t))) := by
  rw [dk_at (dk_kd_lt h (by omega))]
  unfold dk_cel dk_ce
  rw [h, if_pos ht]
theorem dk_fs_get {g : dk_G} {k : Nat} {f : Nat → Int32} {h : Nat → Int64} {ts : List Nat} {j t : Nat} (hj : ts[j]? = some t) : (dk_fs g k f h ts)[j]? = some (dk_fv g k f h t j) := by
  simp [dk_fs, List.getElem?_mapIdx, hj]
theorem dk_fs_len {g : dk_G} {k : Nat} {f : Nat → Int32} {h : Nat → Int64} {ts : List Nat} : (dk_fs g k f h ts).length = ts.length := by simp [dk_fs]
theorem dk_fs_si {g : dk_G} {k : Nat} {f : Nat → Int32} {h : Nat → Int64} {ts : List Nat} {j : Nat} {v : Int32} (hj : ts[j]? = some 0) : dk_fs g k (upd f j v) h ts = (dk_fs g k f h ts).set j (.int v) := by
  apply List.ext_getElem?
  intro i
  have hjl : j < ts.length := (List.getElem?_eq_some_iff.mp hj).1
  by_cases hi : i = j
  · subst hi
    rw [List.getElem?_set_self (by rw [dk_fs_len]; exact hjl), dk_fs_get hj]
    simp [dk_fv, upd]
  · rw [List.getElem?_set_ne (fun h => hi h.symm)]
    simp only [dk_fs, List.getElem?_mapIdx]
    cases ht : ts[i]? with
    | none => rfl
    | some t =>
      simp only [Option.map_some]
      congr 1
      unfold dk_fv
      split
      · simp [upd, hi]
      · rfl
      · rfl
theorem dk_fs_sl {g : dk_G} {k : Nat} {f : Nat → Int32} {h : Nat → Int64} {ts : List Nat} {j : Nat} {v : Int64} (hj : ts[j]? = some 1) : dk_fs g k f (vp_updL h j v) ts = (dk_fs g k f h ts).set j (.long v) := by
  apply List.ext_getElem?
  intro i
  have hjl : j < ts.length := (List.getElem?_eq_some_iff.mp hj).1
  by_cases hi : i = j
  · subst hi
    rw [List.getElem?_set_self (by rw [dk_fs_len]; exact hjl), dk_fs_get hj]
    simp [dk_fv, vp_updL]
  · rw [List.getElem?_set_ne (fun h => hi h.symm)]
    simp only [dk_fs, List.getElem?_mapIdx]
    cases ht : ts[i]? with
    | none => rfl
    | some t =>
      simp only [Option.map_some]
      congr 1
      unfold dk_fv
      split
      · rfl
      · simp [vp_updL, hi]
      · rfl
theorem dk_put_i {g : dk_G} {S : dk_S} {k t j : Nat} {v : Int32} (h : dk_kd k = t) (ht : t < 10) (hj : (dk_fl t)[j]? = some 0) : (dk_wd g S).set k (g.1 k, .inr (t, (dk_fs g k (S.1 k) (S.2 k) (dk_fl t)).set j (.int v))) = dk_wd g (dk_si S k j v) := by
  refine dk_set_r (dk_kd_lt h (by omega)) ?_
  unfold dk_cel dk_ce
  rw [h, if_pos ht, dk_fs_si hj]
theorem dk_put_l {g : dk_G} {S : dk_S} {k t j : Nat} {v : Int64} (h : dk_kd k = t) (ht : t < 10) (hj : (dk_fl t)[j]? = some 1) : (dk_wd g S).set k (g.1 k, .inr (t, (dk_fs g k (S.1 k) (S.2 k) (dk_fl t)).set j (.long v))) = dk_wd g (dk_sl S k j v) := by
  refine dk_set_q (dk_kd_lt h (by omega)) ?_
  unfold dk_cel dk_ce
  rw [h, if_pos ht, dk_fs_sl hj]
/-! rows of numbers -/
theorem dk_ari {g : dk_G} {S : dk_S} {k n : Nat} (h : dk_kd k = 1000 + n) (hn : n < 1000) : (dk_wd g S)[k]? = some (g.1 k, .inl (g.2.2 0, n, .inl (S.1 k))) := by
  rw [dk_at (dk_kd_lt h (by omega))]
  unfold dk_cel dk_ce
  rw [h, if_neg (by omega), if_neg (by omega), if_neg (by omega), if_neg (by omega), if_neg (by omega), if_neg (by omega), if_pos (by omega), Nat.add_sub_cancel_left]
theorem dk_arb {g : dk_G} {S : dk_S} {k n : Nat} (h : dk_kd k = 2000 + n) (hn : n < 1000) : (dk_wd g S)[k]? = some (g.1 k, .inl (g.2.2 1, n, .inl (S.1 k))) := by
  rw [dk_at (dk_kd_lt h (by omega))]
  unfold dk_cel dk_ce
  rw [h, if_neg (by omega), if_neg (by omega), if_neg (by omega), if_neg (by omega), if_neg (by omega), if_neg (by omega), if_neg (by omega), if_pos (by omega), Nat.add_sub_cancel_left]
theorem dk_arz {g : dk_G} {S : dk_S} {k n : Nat} (h : dk_kd k = 3000 + n) (hn : n < 1000) : (dk_wd g S)[k]? = some (g.1 k, .inl (g.2.2 2, n, .inl (S.1 k))) := by
  rw [dk_at (dk_kd_lt h (by omega))]
  unfold dk_cel dk_ce
  rw [h, if_neg (by omega), if_neg (by omega), if_neg (by omega), if_neg (by omega), if_neg (by omega), if_neg (by omega), if_neg (by omega), if_neg (by omega), if_pos (by omega), Nat.add_sub_cancel_left]
theorem dk_arl {g : dk_G} {S : dk_S} {k n : Nat} (h : dk_kd k = 4000 + n) (hn : n < 1000) : (dk_wd g S)[k]? = some (g.1 k, .inl (g.2.2 3, n, .inr (.inl (S.2 k)))) := by
  rw [dk_at (dk_kd_lt h (by omega))]
  unfold dk_cel dk_ce
  rw [h, if_neg (by omega), if_neg (by omega), if_neg (by omega), if_neg (by omega), if_neg (by omega), if_neg (by omega), if_neg (by omega), if_neg (by omega), if_neg (by omega), Nat.add_sub_cancel_left]
theorem dk_sti {g : dk_G} {S : dk_S} {k n : Nat} {f : Nat → Int32} (h : dk_kd k = 1000 + n) (hn : n < 1000) : (dk_wd g S).set k (g.1 k, .inl (g.2.2 0, n, .inl f)) = dk_wd g (dk_sr S k f) := by
  refine dk_set_r (dk_kd_lt h (by omega)) ?_
  unfold dk_cel dk_ce
  rw [h, if_neg (by omega), if_neg (by omega), if_neg (by omega), if_neg (by omega), if_neg (by omega), if_neg (by omega), if_pos (by omega), Nat.add_sub_cancel_left]
theorem dk_stb {g : dk_G} {S : dk_S} {k n : Nat} {f : Nat → Int32} (h : dk_kd k = 2000 + n) (hn : n < 1000) : (dk_wd g S).set k (g.1 k, .inl (g.2.2 1, n, .inl f)) = dk_wd g (dk_sr S k f) := by
  refine dk_set_r (dk_kd_lt h (by omega)) ?_
  unfold dk_cel dk_ce
  rw [h, if_neg (by omega), if_neg (by omega), if_neg (by omega), if_neg (by omega), if_neg (by omega), if_neg (by omega), if_neg (by omega), if_pos (by omega), Nat.add_sub_cancel_left]
theorem dk_stz {g : dk_G} {S : dk_S} {k n : Nat} {f : Nat → Int32} (h : dk_kd k = 3000 + n) (hn : n < 1000) : (dk_wd g S).set k (g.1 k, .inl (g.2.2 2, n, .inl f)) = dk_wd g (dk_sr S k f) := by
  refine dk_set_r (dk_kd_lt h (by omega)) ?_
  unfold dk_cel dk_ce
  rw [h, if_neg (by omega), if_neg (by omega), if_neg (by omega), if_neg (by omega), if_neg (by omega), if_neg (by omega), if_neg (by omega), if_neg (by omega), if_pos (by omega), Nat.add_sub_cancel_left]
theorem dk_stl {g : dk_G} {S : dk_S} {k n : Nat} {f : Nat → Int64} (h : dk_kd k = 4000 + n) (hn : n < 1000) : (dk_wd g S).set k (g.1 k, .inl (g.2.2 3, n, .inr (.inl f))) = dk_wd g (dk_sq S k f) := by
  refine dk_set_q (dk_kd_lt h (by omega)) ?_
  unfold dk_cel dk_ce
  rw [h, if_neg (by omega), if_neg (by omega), if_neg (by omega), if_neg (by omega), if_neg (by omega), if_neg (by omega), if_neg (by omega), if_neg (by omega), if_neg (by omega), Nat.add_sub_cancel_left]
end
section
/-! THE JUDGEMENT: 'from here, with the cells S, the method comes to its end as the function o says' -/
def dk_lt {α β : Type} (x : α) (f : α → β) : β := f x
def dk_gd {β : Type} (b : Bool) (o : Option β) : Option β := match b with
  | true => o
  | false => none
def dk_ob {α β : Type} (o : Option (α × dk_S)) (f : α → dk_S → Option β) : Option β := match o with
  | none => none
  | some r => f r.1 r.2
def dk_ov {β : Type} (o : Option dk_S) (f : dk_S → Option β) : Option β := match o with
  | none => none
  | some r => f r
def dk_Qm (A : Nat → Prop) (v : Option Value) (B : State → Prop) : Array Value → State → Outcome → State → Prop := fun _ st oc t => (oc = .returned v ∧ B t) ∧ va_F A st t
/-- the nest mates' links that the methods need -/
def dk_nws : List Cond := [.methodLinkNest "DuckWalk$Duck" 39 yX8_isOutside "DuckWalk", .methodLinkNest "DuckWalk$Plank" 35 yX8_isOutside "DuckWalk", .methodLinkNest "DuckWalk$Script" 33 yX8_isOutside "DuckWalk", .methodLinkNest "DuckWalk$Trial" 62 yX8_isOutside "DuckWalk"]
def dk_N (U : State) : Prop := ∀ w ∈ dk_nws, va_Nw w U
theorem dk_N.same {u U : State} (h : u.vm = U.vm) (hN : dk_N u) : dk_N U := fun w hw => va_Nw.same (by revert w; decide) h (hN w hw)
theorem dk_N.warm {u U : State} (h : u.WarmedH U.vm) (hN : dk_N u) : dk_N U := by
  have h0 := fun w hw => hN w hw
  simp only [dk_nws, List.forall_mem_cons] at h0
  obtain ⟨a, b, c, d, -⟩ := h0
  unfold dk_N dk_nws
  simp only [List.forall_mem_cons]
  exact ⟨va_Nw.warmM h a, va_Nw.warmM h b, va_Nw.warmM h c, va_Nw.warmM h d, fun _ h => absurd h List.not_mem_nil⟩
/-- what a method starts from, and ends with -/
def dk_B (g : dk_G) (S : dk_S) (U : State) : Prop := dk_inj g ∧ dk_N U ∧ va_K g.2.1 vwCl (dk_tys g) U ∧ va_P g.2.1 vwCl (dk_wd g S) U.heap
def dk_E (g : dk_G) (S : dk_S) (U : State) : Prop := va_P g.2.1 vwCl (dk_wd g S) U.heap
/-- a method's contract: if the function answers, the method does, so -/
def dk_M {α : Type} (l : Launch) (g : dk_G) (y : MethodName) (cc : ByteArray) (nL : Nat) (ret : Option FieldType) (fr lo : Nat) (av : List Value) (S : dk_S) (o : Option α) (qa : α → Option Value × dk_S) : Prop :=
  ∀ out, o = some out → Met l y (Cond.code y cc nL ret :: dk_tb) { frames := fr, cells := 0, slots := 0, locals := lo } (va_Pc av (dk_B g S)) (dk_Qm (dk_A g) (qa out).1 (dk_E g (qa out).2)) 0 0 (dk_A g)
def dk_qi : Int32 × dk_S → Option Value × dk_S := fun r => (some (.int r.1), r.2)
def dk_ql : Int64 × dk_S → Option Value × dk_S := fun r => (some (.long r.1), r.2)
def dk_qv : dk_S → Option Value × dk_S := fun r => (none, r)
/-- what holds all through a method -/
def dk_C (p : Program) (_ : Launch) (_ : Env) (_ : Room) (s : State) (m : MethodId) (args : Array Value) (_ : List Frame) (meth : Method) (c : Code) (g : dk_G) (cc : ByteArray) (own : String) (nL : Nat) (ret : Option FieldType) : Prop :=
  p.tables.exec = Jvm.exec ∧ c.code = cc ∧ c.maxLocals = nL ∧ s.vm.findClass own = some m.cls ∧ (∀ w ∈ dk_tb, w.before args s = true) ∧ meth.sig.returnType = ret ∧ meth.locks = false ∧ dk_inj g ∧ dk_N s ∧ va_K g.2.1 vwCl (dk_tys g) s
def dk_J (p : Program) (l : Launch) (e : Env) (R : Room) (s : State) (m : MethodId) (args : Array Value) (below : List Frame) (meth : Method) (c : Code) (g : dk_G) (nL : Nat) {α β : Type} (qa : α → Option Value × dk_S) (pc : Nat) (lv : List (Nat × Value)) (st : List Value) (S : dk_S) (o : Option β) (K : β → Option α) : Prop :=
  ∀ out, o.bind K = some out → ∀ (H : Heap) (locs : List Loc) (ls : Array Slot), va_P g.2.1 vwCl (dk_wd g S) H → va_S (dk_A g) s.heap H locs → lv_has ls nL lv → W p l e R s m args below meth c H locs 0 0 (MQ below (dk_Qm (dk_A g) (qa out).1 (dk_E g (qa out).2)) args s 0 0 (dk_A g)) (F0 m pc ls st)
section dkj
variable {p : Program} {l : Launch} {e : Env} {R : Room} {s : State} {m : MethodId} {args : Array Value} {below : List Frame} {meth : Method} {c : Code} {g : dk_G} {cc : ByteArray} {own : String} {nL : Nat} {ret : Option FieldType} {α β γ : Type} {qa : α → Option Value × dk_S} {pc : Nat} {lv : List (Nat × Value)} {st : List Value} {S : dk_S} {o : Option β} {K : β → Option α}
theorem dj_gd {b : Bool} (k : b = true → dk_J p l e R s m args below meth c g nL qa pc lv st S o K) : dk_J p l e R s m args below meth c g nL qa pc lv st S (dk_gd b o) K := by
  cases b with
  | true => exact k rfl
  | false => intro out ho; simp [dk_gd] at ho
theorem dj_none : dk_J p l e R s m args below meth c g nL qa pc lv st S (none : Option β) K := by
  intro out ho; simp at ho
/-- a segment begins: its end goes on with f -/
theorem dj_bind {o2 : Option γ} {f : γ → Option β} (k : dk_J p l e R s m args below meth c g nL qa pc lv st S o2 (fun b => (f b).bind K)) : dk_J p l e R s m args below meth c g nL qa pc lv st S (o2.bind f) K := by
  intro out ho
  rw [Option.bind_assoc] at ho
  exact k out ho
theorem dj_end {b : γ} {f : γ → Option β} (k : dk_J p l e R s m args below meth c g nL qa pc lv st S (f b) K) : dk_J p l e R s m args below meth c g nL qa pc lv st S (some b) (fun b => (f b).bind K) := k
/-- a value is named -/
theorem dj_lt {δ : Type} {x : δ} {f : δ → Option β} {lf : δ → List (Nat × Value)} {sf : δ → List Value} {Sf : δ → dk_S} (k : ∀ y, dk_J p l e R s m args below meth c g nL qa pc (lf y) (sf y) (Sf y) (f y) K) : dk_J p l e R s m args below meth c g nL qa pc (lf x) (sf x) (Sf x) (dk_lt x f) K := k x
theorem dj_lti {x : Int32} {f : Int32 → Option β} (k : ∀ y, dk_J p l e R s m args below meth c g nL qa pc lv (.int y :: st) S (f y) K) : dk_J p l e R s m args below meth c g nL qa pc lv (.int x :: st) S (dk_lt x f) K := k x
theorem dj_ltl {x : Int64} {f : Int64 → Option β} (k : ∀ y, dk_J p l e R s m args below meth c g nL qa pc lv (.long y :: st) S (f y) K) : dk_J p l e R s m args below meth c g nL qa pc lv (.long x :: st) S (dk_lt x f) K := k x
/-- the end -/
theorem dj_iret (C : dk_C p l e R s m args below meth c g cc own nL (some .int)) {v : Int32} (hd : decode cc pc = .ok (.ireturn, 1)) : dk_J p l e R s m args below meth c g nL dk_qi pc lv [.int v] S (some (v, S)) some := by
  intro out ho H locs ls hP hS hl
  cases ho
  obtain ⟨hx, hb, -, -, -, hr, hlk, -⟩ := C
  exact W.iret hx hb hr (fun t ht hW => ⟨⟨rfl, by unfold dk_E; rw [ht]; exact hP⟩, hS.F ht⟩) hS.2.2 hd hlk
theorem dj_zret (C : dk_C p l e R s m args below meth c g cc own nL (some .boolean)) {v : Int32} (hn : narrow .boolean (.int v) = .int v) (hd : decode cc pc = .ok (.ireturn, 1)) : dk_J p l e R s m args below meth c g nL dk_qi pc lv [.int v] S (some (v, S)) some := by
  intro out ho H locs ls hP hS hl
  cases ho
  obtain ⟨hx, hb, -, -, -, hr, hlk, -⟩ := C
  exact W.zret hx hb hr hn (fun t ht hW => ⟨⟨rfl, by unfold dk_E; rw [ht]; exact hP⟩, hS.F ht⟩) hS.2.2 hd hlk
theorem dj_lret (C : dk_C p l e R s m args below meth c g cc own nL (some .long)) {v : Int64} (hd : decode cc pc = .ok (.lreturn, 1)) : dk_J p l e R s m args below meth c g nL dk_ql pc lv [.long v] S (some (v, S)) some := by
  intro out ho H locs ls hP hS hl
  cases ho
  obtain ⟨hx, hb, -, -, -, hr, hlk, -⟩ := C
  exact W.lret hx hb hr (fun t ht hW => ⟨⟨rfl, by unfold dk_E; rw [ht]; exact hP⟩, hS.F ht⟩) hS.2.2 hd hlk
theorem dj_vret (C : dk_C p l e R s m args below meth c g cc own nL none) (hd : decode cc pc = .ok (.return_, 1)) : dk_J p l e R s m args below meth c g nL dk_qv pc lv [] S (some S) some := by
  intro out ho H locs ls hP hS hl
  cases ho
  obtain ⟨hx, hb, -, -, -, hr, hlk, -⟩ := C
  exact W.vret hx hb hr (fun t ht hW => ⟨⟨rfl, by unfold dk_E; rw [ht]; exact hP⟩, hS.F ht⟩) hS.2.2 hd hlk
end dkj
/-- a method's contract out of its body -/
theorem dk_enter {l : Launch} {g : dk_G} {y : MethodName} {cc : ByteArray} {nL : Nat} {ret : Option FieldType} {fr lo : Nat} {av : List Value} {S : dk_S} {α : Type} {o : Option α} {qa : α → Option Value × dk_S} (own : String) (hy : plainName y.cls = true) (ho : y.cls = own) (hlen : (lg_sl av).length ≤ nL) (lv : List (Nat × Value)) (hlv : lv_args 0 av = lv)
    (body : ∀ (p : Program) (e : Env) (s : State) (m : MethodId) (args : Array Value) (below : List Frame) (meth : Method) (c : Code), dk_C p l e { frames := fr, cells := 0, slots := 0, locals := lo } s m args below meth c g cc own nL ret → dk_J p l e { frames := fr, cells := 0, slots := 0, locals := lo } s m args below meth c g nL qa 0 lv [] S o some) : dk_M l g y cc nL ret fr lo av S o qa := by
  intro out hout
  refine Met.ofW (cc := cc) (maxL := nL) (ret := ret) hy rfl ?_
  intro p e s m args below meth c s₁ B hml hv
  obtain ⟨rfl, hinj, hN, hK, hP⟩ := hv
  have hx := B.exec
  have hb := B.bytes
  have hr := B.returns
  have hts := atoms_spec (ws := Cond.code y cc nL ret :: dk_tb) B.pre
  have hown : s.vm.findClass own = some m.cls := by rw [← ho]; exact findClass_of_methodNamed B.named
  have hl := lv_entry av hlen
  rw [lg_entry_eq]
  rw [hlv] at hl
  exact body p e s m _ below meth c ⟨hx, hb, hml, hown, fun w hw => hts w (List.mem_cons_of_mem _ hw), hr, B.notSynchronized, hinj, hN, hK⟩ out (by rw [hout]; rfl) s.heap [] _ hP va_S.rf hl
section dkrows
variable {p : Program} {l : Launch} {e : Env} {R : Room} {s : State} {m : MethodId} {args : Array Value} {below : List Frame} {meth : Method} {c : Code} {g : dk_G} {cc : ByteArray} {own : String} {nL : Nat} {ret : Option FieldType} {α β : Type} {qa : α → Option Value × dk_S} {pc : Nat} {lv : List (Nat × Value)} {st : List Value} {S : dk_S} {o : Option β} {K : β → Option α}
theorem dj_iadd (C : dk_C p l e R s m args below meth c g cc own nL ret) {x y : Int32} (hd : decode cc pc = .ok (.iadd, 1)) (k : dk_J p l e R s m args below meth c g nL qa (pc + 1) lv (.int (x + y) :: st) S o K) : dk_J p l e R s m args below meth c g nL qa pc lv (.int y :: .int x :: st) S o K := fun out ho H locs ls hP hS hl => lv_iadd C.1 C.2.1 hd (k out ho H locs ls hP hS hl)
theorem dj_isub (C : dk_C p l e R s m args below meth c g cc own nL ret) {x y : Int32} (hd : decode cc pc = .ok (.isub, 1)) (k : dk_J p l e R s m args below meth c g nL qa (pc + 1) lv (.int (x - y) :: st) S o K) : dk_J p l e R s m args below meth c g nL qa pc lv (.int y :: .int x :: st) S o K := fun out ho H locs ls hP hS hl => lv_isub C.1 C.2.1 hd (k out ho H locs ls hP hS hl)
theorem dj_imul (C : dk_C p l e R s m args below meth c g cc own nL ret) {x y : Int32} (hd : decode cc pc = .ok (.imul, 1)) (k : dk_J p l e R s m args below meth c g nL qa (pc + 1) lv (.int (x * y) :: st) S o K) : dk_J p l e R s m args below meth c g nL qa pc lv (.int y :: .int x :: st) S o K := fun out ho H locs ls hP hS hl => lv_imul C.1 C.2.1 hd (k out ho H locs ls hP hS hl)
theorem dj_iand (C : dk_C p l e R s m args below meth c g cc own nL ret) {x y : Int32} (hd : decode cc pc = .ok (.iand, 1)) (k : dk_J p l e R s m args below meth c g nL qa (pc + 1) lv (.int (x &&& y) :: st) S o K) : dk_J p l e R s m args below meth c g nL qa pc lv (.int y :: .int x :: st) S o K := fun out ho H locs ls hP hS hl => lv_iand C.1 C.2.1 hd (k out ho H locs ls hP hS hl)
theorem dj_ior (C : dk_C p l e R s m args below meth c g cc own nL ret) {x y : Int32} (hd : decode cc pc = .ok (.ior, 1)) (k : dk_J p l e R s m args below meth c g nL qa (pc + 1) lv (.int (x ||| y) :: st) S o K) : dk_J p l e R s m args below meth c g nL qa pc lv (.int y :: .int x :: st) S o K := fun out ho H locs ls hP hS hl => lv_ior C.1 C.2.1 hd (k out ho H locs ls hP hS hl)
theorem dj_ixor (C : dk_C p l e R s m args below meth c g cc own nL ret) {x y : Int32} (hd : decode cc pc = .ok (.ixor, 1)) (k : dk_J p l e R s m args below meth c g nL qa (pc + 1) lv (.int (x ^^^ y) :: st) S o K) : dk_J p l e R s m args below meth c g nL qa pc lv (.int y :: .int x :: st) S o K := fun out ho H locs ls hP hS hl => lv_ixor C.1 C.2.1 hd (k out ho H locs ls hP hS hl)
theorem dj_ishl (C : dk_C p l e R s m args below meth c g cc own nL ret) {x y : Int32} (hd : decode cc pc = .ok (.ishl, 1)) (k : dk_J p l e R s m args below meth c g nL qa (pc + 1) lv (.int (x <<< (y &&& 31)) :: st) S o K) : dk_J p l e R s m args below meth c g nL qa pc lv (.int y :: .int x :: st) S o K := fun out ho H locs ls hP hS hl => lv_ishl C.1 C.2.1 hd (k out ho H locs ls hP hS hl)
theorem dj_ishr (C : dk_C p l e R s m args below meth c g cc own nL ret) {x y : Int32} (hd : decode cc pc = .ok (.ishr, 1)) (k : dk_J p l e R s m args below meth c g nL qa (pc + 1) lv (.int (x >>> (y &&& 31)) :: st) S o K) : dk_J p l e R s m args below meth c g nL qa pc lv (.int y :: .int x :: st) S o K := fun out ho H locs ls hP hS hl => lv_ishr C.1 C.2.1 hd (k out ho H locs ls hP hS hl)
theorem dj_ineg (C : dk_C p l e R s m args below meth c g cc own nL ret) {x : Int32} (hd : decode cc pc = .ok (.ineg, 1)) (k : dk_J p l e R s m args below meth c g nL qa (pc + 1) lv (.int (-x) :: st) S o K) : dk_J p l e R s m args below meth c g nL qa pc lv (.int x :: st) S o K := fun out ho H locs ls hP hS hl => lv_ineg C.1 C.2.1 hd (k out ho H locs ls hP hS hl)
theorem dj_ladd (C : dk_C p l e R s m args below meth c g cc own nL ret) {x y : Int64} (hd : decode cc pc = .ok (.ladd, 1)) (k : dk_J p l e R s m args below meth c g nL qa (pc + 1) lv (.long (x + y) :: st) S o K) : dk_J p l e R s m args below meth c g nL qa pc lv (.long y :: .long x :: st) S o K := fun out ho H locs ls hP hS hl => lv_ladd C.1 C.2.1 hd (k out ho H locs ls hP hS hl)
theorem dj_lsub (C : dk_C p l e R s m args below meth c g cc own nL ret) {x y : Int64} (hd : decode cc pc = .ok (.lsub, 1)) (k : dk_J p l e R s m args below meth c g nL qa (pc + 1) lv (.long (x - y) :: st) S o K) : dk_J p l e R s m args below meth c g nL qa pc lv (.long y :: .long x :: st) S o K := fun out ho H locs ls hP hS hl => lv_lsub C.1 C.2.1 hd (k out ho H locs ls hP hS hl)
theorem dj_lmul (C : dk_C p l e R s m args below meth c g cc own nL ret) {x y : Int64} (hd : decode cc pc = .ok (.lmul, 1)) (k : dk_J p l e R s m args below meth c g nL qa (pc + 1) lv (.long (x * y) :: st) S o K) : dk_J p l e R s m args below meth c g nL qa pc lv (.long y :: .long x :: st) S o K := fun out ho H locs ls hP hS hl => lv_lmul C.1 C.2.1 hd (k out ho H locs ls hP hS hl)
theorem dj_land (C : dk_C p l e R s m args below meth c g cc own nL ret) {x y : Int64} (hd : decode cc pc = .ok (.land, 1)) (k : dk_J p l e R s m args below meth c g nL qa (pc + 1) lv (.long (x &&& y) :: st) S o K) : dk_J p l e R s m args below meth c g nL qa pc lv (.long y :: .long x :: st) S o K := fun out ho H locs ls hP hS hl => lv_land C.1 C.2.1 hd (k out ho H locs ls hP hS hl)
theorem dj_lor (C : dk_C p l e R s m args below meth c g cc own nL ret) {x y : Int64} (hd : decode cc pc = .ok (.lor, 1)) (k : dk_J p l e R s m args below meth c g nL qa (pc + 1) lv (.long (x ||| y) :: st) S o K) : dk_J p l e R s m args below meth c g nL qa pc lv (.long y :: .long x :: st) S o K := fun out ho H locs ls hP hS hl => lv_lor C.1 C.2.1 hd (k out ho H locs ls hP hS hl)
theorem dj_i2l (C : dk_C p l e R s m args below meth c g cc own nL ret) {x : Int32} (hd : decode cc pc = .ok (.i2l, 1)) (k : dk_J p l e R s m args below meth c g nL qa (pc + 1) lv (.long (x.toInt64) :: st) S o K) : dk_J p l e R s m args below meth c g nL qa pc lv (.int x :: st) S o K := fun out ho H locs ls hP hS hl => lv_i2l C.1 C.2.1 hd rfl (k out ho H locs ls hP hS hl)
theorem dj_l2i (C : dk_C p l e R s m args below meth c g cc own nL ret) {x : Int64} (hd : decode cc pc = .ok (.l2i, 1)) (k : dk_J p l e R s m args below meth c g nL qa (pc + 1) lv (.int (x.toInt32) :: st) S o K) : dk_J p l e R s m args below meth c g nL qa pc lv (.long x :: st) S o K := fun out ho H locs ls hP hS hl => lv_l2i C.1 C.2.1 hd rfl (k out ho H locs ls hP hS hl)
theorem dj_i2b (C : dk_C p l e R s m args below meth c g cc own nL ret) {x : Int32} (hd : decode cc pc = .ok (.i2b, 1)) (k : dk_J p l e R s m args below meth c g nL qa (pc + 1) lv (.int (x.toInt8.toInt32) :: st) S o K) : dk_J p l e R s m args below meth c g nL qa pc lv (.int x :: st) S o K := fun out ho H locs ls hP hS hl => lv_i2b C.1 C.2.1 hd rfl (k out ho H locs ls hP hS hl)
theorem dj_iushr (C : dk_C p l e R s m args below meth c g cc own nL ret) {x y : Int32} (hd : decode cc pc = .ok (.iushr, 1)) (k : dk_J p l e R s m args below meth c g nL qa (pc + 1) lv (.int ((x.toUInt32 >>> (y.toUInt32 &&& Int32.toUInt32 31)).toInt32) :: st) S o K) : dk_J p l e R s m args below meth c g nL qa pc lv (.int y :: .int x :: st) S o K := fun out ho H locs ls hP hS hl => lv_iushr C.1 C.2.1 hd rfl (k out ho H locs ls hP hS hl)
theorem dj_lushr (C : dk_C p l e R s m args below meth c g cc own nL ret) {x : Int64} {y : Int32} (hd : decode cc pc = .ok (.lushr, 1)) (k : dk_J p l e R s m args below meth c g nL qa (pc + 1) lv (.long ((x.toUInt64 >>> (y.toInt64.toUInt64 &&& Int64.toUInt64 63)).toInt64) :: st) S o K) : dk_J p l e R s m args below meth c g nL qa pc lv (.int y :: .long x :: st) S o K := fun out ho H locs ls hP hS hl => lv_lushr C.1 C.2.1 hd rfl (k out ho H locs ls hP hS hl)
theorem dj_lshl (C : dk_C p l e R s m args below meth c g cc own nL ret) {x : Int64} {y : Int32} (hd : decode cc pc = .ok (.lshl, 1)) (k : dk_J p l e R s m args below meth c g nL qa (pc + 1) lv (.long (x <<< (y.toInt64 &&& 63)) :: st) S o K) : dk_J p l e R s m args below meth c g nL qa pc lv (.int y :: .long x :: st) S o K := fun out ho H locs ls hP hS hl => lv_lshl C.1 C.2.1 hd rfl (k out ho H locs ls hP hS hl)
theorem dj_lcmp (C : dk_C p l e R s m args below meth c g cc own nL ret) {x y : Int64} (hd : decode cc pc = .ok (.lcmp, 1)) (k : dk_J p l e R s m args below meth c g nL qa (pc + 1) lv (.int (lg_cmp x y) :: st) S o K) : dk_J p l e R s m args below meth c g nL qa pc lv (.long y :: .long x :: st) S o K := fun out ho H locs ls hP hS hl => W.lcmp C.1 C.2.1 hd (k out ho H locs ls hP hS hl)
theorem dj_idiv (C : dk_C p l e R s m args below meth c g cc own nL ret) {x y : Int32} (hd : decode cc pc = .ok (.idiv, 1)) (hy : ¬ y = 0) (k : dk_J p l e R s m args below meth c g nL qa (pc + 1) lv (.int (x / y) :: st) S o K) : dk_J p l e R s m args below meth c g nL qa pc lv (.int y :: .int x :: st) S o K := fun out ho H locs ls hP hS hl => lv_idiv C.1 C.2.1 hd hy (k out ho H locs ls hP hS hl)
theorem dj_idivg (C : dk_C p l e R s m args below meth c g cc own nL ret) {x y : Int32} (hd : decode cc pc = .ok (.idiv, 1)) (k : dk_J p l e R s m args below meth c g nL qa (pc + 1) lv (.int (x / y) :: st) S o K) : dk_J p l e R s m args below meth c g nL qa pc lv (.int y :: .int x :: st) S (dk_gd (decide (¬ y = 0)) o) K := dj_gd fun hy => dj_idiv C hd (of_decide_eq_true hy) k
theorem dj_irem (C : dk_C p l e R s m args below meth c g cc own nL ret) {x y : Int32} (hd : decode cc pc = .ok (.irem, 1)) (hy : ¬ y = 0) (k : dk_J p l e R s m args below meth c g nL qa (pc + 1) lv (.int (x - x / y * y) :: st) S o K) : dk_J p l e R s m args below meth c g nL qa pc lv (.int y :: .int x :: st) S o K := fun out ho H locs ls hP hS hl => lv_irem C.1 C.2.1 hd hy (k out ho H locs ls hP hS hl)
theorem dj_iremg (C : dk_C p l e R s m args below meth c g cc own nL ret) {x y : Int32} (hd : decode cc pc = .ok (.irem, 1)) (k : dk_J p l e R s m args below meth c g nL qa (pc + 1) lv (.int (x - x / y * y) :: st) S o K) : dk_J p l e R s m args below meth c g nL qa pc lv (.int y :: .int x :: st) S (dk_gd (decide (¬ y = 0)) o) K := dj_gd fun hy => dj_irem C hd (of_decide_eq_true hy) k
theorem dj_ldiv (C : dk_C p l e R s m args below meth c g cc own nL ret) {x y : Int64} (hd : decode cc pc = .ok (.ldiv, 1)) (hy : ¬ y = 0) (k : dk_J p l e R s m args below meth c g nL qa (pc + 1) lv (.long (x / y) :: st) S o K) : dk_J p l e R s m args below meth c g nL qa pc lv (.long y :: .long x :: st) S o K := fun out ho H locs ls hP hS hl => lv_ldiv C.1 C.2.1 hd hy (k out ho H locs ls hP hS hl)
theorem dj_ldivg (C : dk_C p l e R s m args below meth c g cc own nL ret) {x y : Int64} (hd : decode cc pc = .ok (.ldiv, 1)) (k : dk_J p l e R s m args below meth c g nL qa (pc + 1) lv (.long (x / y) :: st) S o K) : dk_J p l e R s m args below meth c g nL qa pc lv (.long y :: .long x :: st) S (dk_gd (decide (¬ y = 0)) o) K := dj_gd fun hy => dj_ldiv C hd (of_decide_eq_true hy) k
theorem dj_lrem (C : dk_C p l e R s m args below meth c g cc own nL ret) {x y : Int64} (hd : decode cc pc = .ok (.lrem, 1)) (hy : ¬ y = 0) (k : dk_J p l e R s m args below meth c g nL qa (pc + 1) lv (.long (x - x / y * y) :: st) S o K) : dk_J p l e R s m args below meth c g nL qa pc lv (.long y :: .long x :: st) S o K := fun out ho H locs ls hP hS hl => lv_lrem C.1 C.2.1 hd hy (k out ho H locs ls hP hS hl)
theorem dj_lremg (C : dk_C p l e R s m args below meth c g cc own nL ret) {x y : Int64} (hd : decode cc pc = .ok (.lrem, 1)) (k : dk_J p l e R s m args below meth c g nL qa (pc + 1) lv (.long (x - x / y * y) :: st) S o K) : dk_J p l e R s m args below meth c g nL qa pc lv (.long y :: .long x :: st) S (dk_gd (decide (¬ y = 0)) o) K := dj_gd fun hy => dj_lrem C hd (of_decide_eq_true hy) k
theorem dj_iconst (C : dk_C p l e R s m args below meth c g cc own nL ret) {n : Int} {v : Int32} (hd : decode cc pc = .ok (.iconst n, 1)) (hv : Int32.ofInt n = v) (k : dk_J p l e R s m args below meth c g nL qa (pc + 1) lv (.int v :: st) S o K) : dk_J p l e R s m args below meth c g nL qa pc lv st S o K := fun out ho H locs ls hP hS hl => lv_iconst C.1 C.2.1 hd hv (k out ho H locs ls hP hS hl)
theorem dj_bipush (C : dk_C p l e R s m args below meth c g cc own nL ret) {n : Int} {v : Int32} (hd : decode cc pc = .ok (.bipush n, 2)) (hv : (Int8.ofInt n).toInt32 = v) (k : dk_J p l e R s m args below meth c g nL qa (pc + 2) lv (.int v :: st) S o K) : dk_J p l e R s m args below meth c g nL qa pc lv st S o K := fun out ho H locs ls hP hS hl => lv_bipush C.1 C.2.1 hd hv (k out ho H locs ls hP hS hl)
theorem dj_sipush (C : dk_C p l e R s m args below meth c g cc own nL ret) {n : Int} {v : Int32} (hd : decode cc pc = .ok (.sipush n, 3)) (hv : (Int16.ofInt n).toInt32 = v) (k : dk_J p l e R s m args below meth c g nL qa (pc + 3) lv (.int v :: st) S o K) : dk_J p l e R s m args below meth c g nL qa pc lv st S o K := fun out ho H locs ls hP hS hl => lv_sipush C.1 C.2.1 hd hv (k out ho H locs ls hP hS hl)
theorem dj_lconst (C : dk_C p l e R s m args below meth c g cc own nL ret) {n : Fin 2} {v : Int64} (hd : decode cc pc = .ok (.lconst n, 1)) (hv : Int64.ofNat (n : Nat) = v) (k : dk_J p l e R s m args below meth c g nL qa (pc + 1) lv (.long v :: st) S o K) : dk_J p l e R s m args below meth c g nL qa pc lv st S o K := fun out ho H locs ls hP hS hl => lv_lconst C.1 C.2.1 hd hv (k out ho H locs ls hP hS hl)
theorem dj_ldc (C : dk_C p l e R s m args below meth c g cc own nL ret) {index : Nat} {v : Int32} (hw : Cond.constant own index v ∈ dk_tb) (hd : decode cc pc = .ok (.ldc index, 2)) (k : dk_J p l e R s m args below meth c g nL qa (pc + 2) lv (.int v :: st) S o K) : dk_J p l e R s m args below meth c g nL qa pc lv st S o K := fun out ho H locs ls hP hS hl => lv_ldc C.1 C.2.1 C.2.2.2.1 (C.2.2.2.2.1 _ hw) hd (k out ho H locs ls hP hS hl)
theorem dj_ldcw (C : dk_C p l e R s m args below meth c g cc own nL ret) {index : Nat} {v : Int32} (hw : Cond.constant own index v ∈ dk_tb) (hd : decode cc pc = .ok (.ldc_w index, 3)) (k : dk_J p l e R s m args below meth c g nL qa (pc + 3) lv (.int v :: st) S o K) : dk_J p l e R s m args below meth c g nL qa pc lv st S o K := fun out ho H locs ls hP hS hl => lv_ldcw C.1 C.2.1 C.2.2.2.1 (C.2.2.2.2.1 _ hw) hd (k out ho H locs ls hP hS hl)
theorem dj_ldc2 (C : dk_C p l e R s m args below meth c g cc own nL ret) {index : Nat} {v : Int64} (hw : Cond.constantLong own index v ∈ dk_tb) (hd : decode cc pc = .ok (.ldc2_w index, 3)) (k : dk_J p l e R s m args below meth c g nL qa (pc + 3) lv (.long v :: st) S o K) : dk_J p l e R s m args below meth c g nL qa pc lv st S o K := fun out ho H locs ls hP hS hl => lv_ldc2 C.1 C.2.1 C.2.2.2.1 (C.2.2.2.2.1 _ hw) hd (k out ho H locs ls hP hS hl)
theorem dj_iload_n (C : dk_C p l e R s m args below meth c g cc own nL ret) {k : Fin 4} {x : Int32} (q : Nat) (hq : lv[q]? = some ((k : Nat), .int x)) (hd : decode cc pc = .ok (.iload_n k, 1)) (kk : dk_J p l e R s m args below meth c g nL qa (pc + 1) lv (.int x :: st) S o K) : dk_J p l e R s m args below meth c g nL qa pc lv st S o K := fun out ho H locs ls hP hS hl => lv_iload_n C.1 C.2.1 hd rfl (lv_at hl q hq) (kk out ho H locs ls hP hS hl)
theorem dj_iload (C : dk_C p l e R s m args below meth c g cc own nL ret) {i : Nat} {x : Int32} (q : Nat) (hq : lv[q]? = some (i, .int x)) (hd : decode cc pc = .ok (.iload i, 2)) (kk : dk_J p l e R s m args below meth c g nL qa (pc + 2) lv (.int x :: st) S o K) : dk_J p l e R s m args below meth c g nL qa pc lv st S o K := fun out ho H locs ls hP hS hl => lv_iload C.1 C.2.1 hd (lv_at hl q hq) (kk out ho H locs ls hP hS hl)
theorem dj_istore_n (C : dk_C p l e R s m args below meth c g cc own nL ret) {k : Fin 4} {i : Nat} {x : Int32} (ks : List Nat) {lv2 : List (Nat × Value)} (hd : decode cc pc = .ok (.istore_n k, 1)) (hi : (k : Nat) = i) (hn : i < nL) (hl2 : lv_pick ((i, Value.int x) :: lv.filter (fun q => !(q.1 == i) && !(q.1 + 1 == i && q.2.category == 2))) ks = lv2) (kk : dk_J p l e R s m args below meth c g nL qa (pc + 1) lv2 st S o K) : dk_J p l e R s m args below meth c g nL qa pc lv (.int x :: st) S o K := fun out ho H locs ls hP hS hl => lv_istore_n C.1 C.2.1 hd hi hl hn rfl (fun ls2 h2 => kk out ho H locs ls2 hP hS (lv_sub h2 ks hl2))
theorem dj_istore (C : dk_C p l e R s m args below meth c g cc own nL ret) {i : Nat} {x : Int32} (ks : List Nat) {lv2 : List (Nat × Value)} (hd : decode cc pc = .ok (.istore i, 2)) (hn : i < nL) (hl2 : lv_pick ((i, Value.int x) :: lv.filter (fun q => !(q.1 == i) && !(q.1 + 1 == i && q.2.category == 2))) ks = lv2) (kk : dk_J p l e R s m args below meth c g nL qa (pc + 2) lv2 st S o K) : dk_J p l e R s m args below meth c g nL qa pc lv (.int x :: st) S o K := fun out ho H locs ls hP hS hl => lv_istore C.1 C.2.1 hd hl hn rfl (fun ls2 h2 => kk out ho H locs ls2 hP hS (lv_sub h2 ks hl2))
theorem dj_lload_n (C : dk_C p l e R s m args below meth c g cc own nL ret) {k : Fin 4} {x : Int64} (q : Nat) (hq : lv[q]? = some ((k : Nat), .long x)) (hd : decode cc pc = .ok (.lload_n k, 1)) (kk : dk_J p l e R s m args below meth c g nL qa (pc + 1) lv (.long x :: st) S o K) : dk_J p l e R s m args below meth c g nL qa pc lv st S o K := fun out ho H locs ls hP hS hl => lv_lload_n C.1 C.2.1 hd rfl (lv_at hl q hq) (kk out ho H locs ls hP hS hl)
theorem dj_lload (C : dk_C p l e R s m args below meth c g cc own nL ret) {i : Nat} {x : Int64} (q : Nat) (hq : lv[q]? = some (i, .long x)) (hd : decode cc pc = .ok (.lload i, 2)) (kk : dk_J p l e R s m args below meth c g nL qa (pc + 2) lv (.long x :: st) S o K) : dk_J p l e R s m args below meth c g nL qa pc lv st S o K := fun out ho H locs ls hP hS hl => lv_lload C.1 C.2.1 hd (lv_at hl q hq) (kk out ho H locs ls hP hS hl)
theorem dj_lstore_n (C : dk_C p l e R s m args below meth c g cc own nL ret) {k : Fin 4} {i : Nat} {x : Int64} (ks : List Nat) {lv2 : List (Nat × Value)} (hd : decode cc pc = .ok (.lstore_n k, 1)) (hi : (k : Nat) = i) (hn : i + 1 < nL) (hl2 : lv_pick ((i, Value.long x) :: lv.filter (fun q => !(q.1 == i) && (!(q.1 == i + 1) && !(q.1 + 1 == i && q.2.category == 2)))) ks = lv2) (kk : dk_J p l e R s m args below meth c g nL qa (pc + 1) lv2 st S o K) : dk_J p l e R s m args below meth c g nL qa pc lv (.long x :: st) S o K := fun out ho H locs ls hP hS hl => lv_lstore_n C.1 C.2.1 hd hi hl hn rfl (fun ls2 h2 => kk out ho H locs ls2 hP hS (lv_sub h2 ks hl2))
theorem dj_lstore (C : dk_C p l e R s m args below meth c g cc own nL ret) {i : Nat} {x : Int64} (ks : List Nat) {lv2 : List (Nat × Value)} (hd : decode cc pc = .ok (.lstore i, 2)) (hn : i + 1 < nL) (hl2 : lv_pick ((i, Value.long x) :: lv.filter (fun q => !(q.1 == i) && (!(q.1 == i + 1) && !(q.1 + 1 == i && q.2.category == 2)))) ks = lv2) (kk : dk_J p l e R s m args below meth c g nL qa (pc + 2) lv2 st S o K) : dk_J p l e R s m args below meth c g nL qa pc lv (.long x :: st) S o K := fun out ho H locs ls hP hS hl => lv_lstore C.1 C.2.1 hd hl hn rfl (fun ls2 h2 => kk out ho H locs ls2 hP hS (lv_sub h2 ks hl2))
theorem dj_aload_n (C : dk_C p l e R s m args below meth c g cc own nL ret) {k : Fin 4} {x : Nat} (q : Nat) (hq : lv[q]? = some ((k : Nat), .ref x)) (hd : decode cc pc = .ok (.aload_n k, 1)) (kk : dk_J p l e R s m args below meth c g nL qa (pc + 1) lv (.ref x :: st) S o K) : dk_J p l e R s m args below meth c g nL qa pc lv st S o K := fun out ho H locs ls hP hS hl => lv_aload_n C.1 C.2.1 hd rfl (lv_at hl q hq) (kk out ho H locs ls hP hS hl)
theorem dj_aload (C : dk_C p l e R s m args below meth c g cc own nL ret) {i : Nat} {x : Nat} (q : Nat) (hq : lv[q]? = some (i, .ref x)) (hd : decode cc pc = .ok (.aload i, 2)) (kk : dk_J p l e R s m args below meth c g nL qa (pc + 2) lv (.ref x :: st) S o K) : dk_J p l e R s m args below meth c g nL qa pc lv st S o K := fun out ho H locs ls hP hS hl => lv_aload C.1 C.2.1 hd (lv_at hl q hq) (kk out ho H locs ls hP hS hl)
theorem dj_astore_n (C : dk_C p l e R s m args below meth c g cc own nL ret) {k : Fin 4} {i : Nat} {x : Nat} (ks : List Nat) {lv2 : List (Nat × Value)} (hd : decode cc pc = .ok (.astore_n k, 1)) (hi : (k : Nat) = i) (hn : i < nL) (hl2 : lv_pick ((i, Value.ref x) :: lv.filter (fun q => !(q.1 == i) && !(q.1 + 1 == i && q.2.category == 2))) ks = lv2) (kk : dk_J p l e R s m args below meth c g nL qa (pc + 1) lv2 st S o K) : dk_J p l e R s m args below meth c g nL qa pc lv (.ref x :: st) S o K := fun out ho H locs ls hP hS hl => lv_astore_n C.1 C.2.1 hd hi hl hn rfl (fun ls2 h2 => kk out ho H locs ls2 hP hS (lv_sub h2 ks hl2))
theorem dj_astore (C : dk_C p l e R s m args below meth c g cc own nL ret) {i : Nat} {x : Nat} (ks : List Nat) {lv2 : List (Nat × Value)} (hd : decode cc pc = .ok (.astore i, 2)) (hn : i < nL) (hl2 : lv_pick ((i, Value.ref x) :: lv.filter (fun q => !(q.1 == i) && !(q.1 + 1 == i && q.2.category == 2))) ks = lv2) (kk : dk_J p l e R s m args below meth c g nL qa (pc + 2) lv2 st S o K) : dk_J p l e R s m args below meth c g nL qa pc lv (.ref x :: st) S o K := fun out ho H locs ls hP hS hl => lv_astore C.1 C.2.1 hd hl hn rfl (fun ls2 h2 => kk out ho H locs ls2 hP hS (lv_sub h2 ks hl2))
theorem dj_iinc (C : dk_C p l e R s m args below meth c g cc own nL ret) {i : Nat} {n : Int} {x w : Int32} (q : Nat) (hq : lv[q]? = some (i, .int x)) (ks : List Nat) {lv2 : List (Nat × Value)} (hd : decode cc pc = .ok (.iinc i n, 3)) (hw : Int32.ofInt n = w) (hn : i < nL) (hl2 : lv_pick ((i, Value.int (x + w)) :: lv.filter (fun q => !(q.1 == i) && !(q.1 + 1 == i && q.2.category == 2))) ks = lv2) (kk : dk_J p l e R s m args below meth c g nL qa (pc + 3) lv2 st S o K) : dk_J p l e R s m args below meth c g nL qa pc lv st S o K := fun out ho H locs ls hP hS hl => lv_iinc C.1 C.2.1 hd hl hq (by rw [hw]) hn rfl (fun ls2 h2 => kk out ho H locs ls2 hP hS (lv_sub h2 ks hl2))
theorem dj_dup (C : dk_C p l e R s m args below meth c g cc own nL ret) {va : Value} (hd : decode cc pc = .ok (.dup, 1)) (hva : va.category = 1) (k : dk_J p l e R s m args below meth c g nL qa (pc + 1) lv (va :: va :: st) S o K) : dk_J p l e R s m args below meth c g nL qa pc lv (va :: st) S o K := fun out ho H locs ls hP hS hl => lv_dup C.1 C.2.1 hd hva (k out ho H locs ls hP hS hl)
theorem dj_pop (C : dk_C p l e R s m args below meth c g cc own nL ret) {va : Value} (hd : decode cc pc = .ok (.pop, 1)) (hva : va.category = 1) (k : dk_J p l e R s m args below meth c g nL qa (pc + 1) lv st S o K) : dk_J p l e R s m args below meth c g nL qa pc lv (va :: st) S o K := fun out ho H locs ls hP hS hl => lv_pop C.1 C.2.1 hd hva (k out ho H locs ls hP hS hl)
theorem dj_dup2 (C : dk_C p l e R s m args below meth c g cc own nL ret) {va vb : Value} (hd : decode cc pc = .ok (.dup2, 1)) (hva : va.category = 1) (hvb : vb.category = 1) (k : dk_J p l e R s m args below meth c g nL qa (pc + 1) lv (va :: vb :: va :: vb :: st) S o K) : dk_J p l e R s m args below meth c g nL qa pc lv (va :: vb :: st) S o K := fun out ho H locs ls hP hS hl => lv_dup2_11 C.1 C.2.1 hd hva hvb (k out ho H locs ls hP hS hl)
theorem dj_if_eq (C : dk_C p l e R s m args below meth c g cc own nL ret) {x : Int32} {off : Int} {tgt : Nat} {o1 o2 : Option β} (hd : decode cc pc = .ok (.ifCond .eq off, 3)) (ht : (pc : Int) + off = (tgt : Int)) (kt : x = 0 → dk_J p l e R s m args below meth c g nL qa tgt lv st S o1 K) (kf : ¬ x = 0 → dk_J p l e R s m args below meth c g nL qa (pc + 3) lv st S o2 K) : dk_J p l e R s m args below meth c g nL qa pc lv (.int x :: st) S (if x = 0 then o1 else o2) K := fun out ho H locs ls hP hS hl => lv_if_eq C.1 C.2.1 hd ht (fun h => kt h out (by rw [if_pos h] at ho; exact ho) H locs ls hP hS hl) (fun h => kf h out (by rw [if_neg h] at ho; exact ho) H locs ls hP hS hl)
theorem dj_icmp_eq (C : dk_C p l e R s m args below meth c g cc own nL ret) {x y : Int32} {off : Int} {tgt : Nat} {o1 o2 : Option β} (hd : decode cc pc = .ok (.if_icmp .eq off, 3)) (ht : (pc : Int) + off = (tgt : Int)) (kt : x = y → dk_J p l e R s m args below meth c g nL qa tgt lv st S o1 K) (kf : ¬ x = y → dk_J p l e R s m args below meth c g nL qa (pc + 3) lv st S o2 K) : dk_J p l e R s m args below meth c g nL qa pc lv (.int y :: .int x :: st) S (if x = y then o1 else o2) K := fun out ho H locs ls hP hS hl => lv_icmp_eq C.1 C.2.1 hd ht (fun h => kt h out (by rw [if_pos h] at ho; exact ho) H locs ls hP hS hl) (fun h => kf h out (by rw [if_neg h] at ho; exact ho) H locs ls hP hS hl)
theorem dj_if_ne (C : dk_C p l e R s m args below meth c g cc own nL ret) {x : Int32} {off : Int} {tgt : Nat} {o1 o2 : Option β} (hd : decode cc pc = .ok (.ifCond .ne off, 3)) (ht : (pc : Int) + off = (tgt : Int)) (kt : ¬ x = 0 → dk_J p l e R s m args below meth c g nL qa tgt lv st S o2 K) (kf : x = 0 → dk_J p l e R s m args below meth c g nL qa (pc + 3) lv st S o1 K) : dk_J p l e R s m args below meth c g nL qa pc lv (.int x :: st) S (if x = 0 then o1 else o2) K := fun out ho H locs ls hP hS hl => lv_if_ne C.1 C.2.1 hd ht (fun h => kt h out (by rw [if_neg h] at ho; exact ho) H locs ls hP hS hl) (fun h => kf h out (by rw [if_pos h] at ho; exact ho) H locs ls hP hS hl)
theorem dj_icmp_ne (C : dk_C p l e R s m args below meth c g cc own nL ret) {x y : Int32} {off : Int} {tgt : Nat} {o1 o2 : Option β} (hd : decode cc pc = .ok (.if_icmp .ne off, 3)) (ht : (pc : Int) + off = (tgt : Int)) (kt : ¬ x = y → dk_J p l e R s m args below meth c g nL qa tgt lv st S o2 K) (kf : x = y → dk_J p l e R s m args below meth c g nL qa (pc + 3) lv st S o1 K) : dk_J p l e R s m args below meth c g nL qa pc lv (.int y :: .int x :: st) S (if x = y then o1 else o2) K := fun out ho H locs ls hP hS hl => lv_icmp_ne C.1 C.2.1 hd ht (fun h => kt h out (by rw [if_neg h] at ho; exact ho) H locs ls hP hS hl) (fun h => kf h out (by rw [if_pos h] at ho; exact ho) H locs ls hP hS hl)
theorem dj_if_lt (C : dk_C p l e R s m args below meth c g cc own nL ret) {x : Int32} {off : Int} {tgt : Nat} {o1 o2 : Option β} (hd : decode cc pc = .ok (.ifCond .lt off, 3)) (ht : (pc : Int) + off = (tgt : Int)) (kt : x < 0 → dk_J p l e R s m args below meth c g nL qa tgt lv st S o1 K) (kf : ¬ x < 0 → dk_J p l e R s m args below meth c g nL qa (pc + 3) lv st S o2 K) : dk_J p l e R s m args below meth c g nL qa pc lv (.int x :: st) S (if x < 0 then o1 else o2) K := fun out ho H locs ls hP hS hl => lv_if_lt C.1 C.2.1 hd ht (fun h => kt h out (by rw [if_pos h] at ho; exact ho) H locs ls hP hS hl) (fun h => kf h out (by rw [if_neg h] at ho; exact ho) H locs ls hP hS hl)
theorem dj_icmp_lt (C : dk_C p l e R s m args below meth c g cc own nL ret) {x y : Int32} {off : Int} {tgt : Nat} {o1 o2 : Option β} (hd : decode cc pc = .ok (.if_icmp .lt off, 3)) (ht : (pc : Int) + off = (tgt : Int)) (kt : x < y → dk_J p l e R s m args below meth c g nL qa tgt lv st S o1 K) (kf : ¬ x < y → dk_J p l e R s m args below meth c g nL qa (pc + 3) lv st S o2 K) : dk_J p l e R s m args below meth c g nL qa pc lv (.int y :: .int x :: st) S (if x < y then o1 else o2) K := fun out ho H locs ls hP hS hl => lv_icmp_lt C.1 C.2.1 hd ht (fun h => kt h out (by rw [if_pos h] at ho; exact ho) H locs ls hP hS hl) (fun h => kf h out (by rw [if_neg h] at ho; exact ho) H locs ls hP hS hl)
theorem dj_if_ge (C : dk_C p l e R s m args below meth c g cc own nL ret) {x : Int32} {off : Int} {tgt : Nat} {o1 o2 : Option β} (hd : decode cc pc = .ok (.ifCond .ge off, 3)) (ht : (pc : Int) + off = (tgt : Int)) (kt : 0 ≤ x → dk_J p l e R s m args below meth c g nL qa tgt lv st S o1 K) (kf : ¬ 0 ≤ x → dk_J p l e R s m args below meth c g nL qa (pc + 3) lv st S o2 K) : dk_J p l e R s m args below meth c g nL qa pc lv (.int x :: st) S (if 0 ≤ x then o1 else o2) K := fun out ho H locs ls hP hS hl => lv_if_ge C.1 C.2.1 hd ht (fun h => kt h out (by rw [if_pos h] at ho; exact ho) H locs ls hP hS hl) (fun h => kf h out (by rw [if_neg h] at ho; exact ho) H locs ls hP hS hl)
theorem dj_icmp_ge (C : dk_C p l e R s m args below meth c g cc own nL ret) {x y : Int32} {off : Int} {tgt : Nat} {o1 o2 : Option β} (hd : decode cc pc = .ok (.if_icmp .ge off, 3)) (ht : (pc : Int) + off = (tgt : Int)) (kt : y ≤ x → dk_J p l e R s m args below meth c g nL qa tgt lv st S o1 K) (kf : ¬ y ≤ x → dk_J p l e R s m args below meth c g nL qa (pc + 3) lv st S o2 K) : dk_J p l e R s m args below meth c g nL qa pc lv (.int y :: .int x :: st) S (if y ≤ x then o1 else o2) K := fun out ho H locs ls hP hS hl => lv_icmp_ge C.1 C.2.1 hd ht (fun h => kt h out (by rw [if_pos h] at ho; exact ho) H locs ls hP hS hl) (fun h => kf h out (by rw [if_neg h] at ho; exact ho) H locs ls hP hS hl)
theorem dj_if_gt (C : dk_C p l e R s m args below meth c g cc own nL ret) {x : Int32} {off : Int} {tgt : Nat} {o1 o2 : Option β} (hd : decode cc pc = .ok (.ifCond .gt off, 3)) (ht : (pc : Int) + off = (tgt : Int)) (kt : 0 < x → dk_J p l e R s m args below meth c g nL qa tgt lv st S o1 K) (kf : ¬ 0 < x → dk_J p l e R s m args below meth c g nL qa (pc + 3) lv st S o2 K) : dk_J p l e R s m args below meth c g nL qa pc lv (.int x :: st) S (if 0 < x then o1 else o2) K := fun out ho H locs ls hP hS hl => lv_if_gt C.1 C.2.1 hd ht (fun h => kt h out (by rw [if_pos h] at ho; exact ho) H locs ls hP hS hl) (fun h => kf h out (by rw [if_neg h] at ho; exact ho) H locs ls hP hS hl)
theorem dj_icmp_gt (C : dk_C p l e R s m args below meth c g cc own nL ret) {x y : Int32} {off : Int} {tgt : Nat} {o1 o2 : Option β} (hd : decode cc pc = .ok (.if_icmp .gt off, 3)) (ht : (pc : Int) + off = (tgt : Int)) (kt : y < x → dk_J p l e R s m args below meth c g nL qa tgt lv st S o1 K) (kf : ¬ y < x → dk_J p l e R s m args below meth c g nL qa (pc + 3) lv st S o2 K) : dk_J p l e R s m args below meth c g nL qa pc lv (.int y :: .int x :: st) S (if y < x then o1 else o2) K := fun out ho H locs ls hP hS hl => lv_icmp_gt C.1 C.2.1 hd ht (fun h => kt h out (by rw [if_pos h] at ho; exact ho) H locs ls hP hS hl) (fun h => kf h out (by rw [if_neg h] at ho; exact ho) H locs ls hP hS hl)
theorem dj_if_le (C : dk_C p l e R s m args below meth c g cc own nL ret) {x : Int32} {off : Int} {tgt : Nat} {o1 o2 : Option β} (hd : decode cc pc = .ok (.ifCond .le off, 3)) (ht : (pc : Int) + off = (tgt : Int)) (kt : x ≤ 0 → dk_J p l e R s m args below meth c g nL qa tgt lv st S o1 K) (kf : ¬ x ≤ 0 → dk_J p l e R s m args below meth c g nL qa (pc + 3) lv st S o2 K) : dk_J p l e R s m args below meth c g nL qa pc lv (.int x :: st) S (if x ≤ 0 then o1 else o2) K := fun out ho H locs ls hP hS hl => lv_if_le C.1 C.2.1 hd ht (fun h => kt h out (by rw [if_pos h] at ho; exact ho) H locs ls hP hS hl) (fun h => kf h out (by rw [if_neg h] at ho; exact ho) H locs ls hP hS hl)
theorem dj_icmp_le (C : dk_C p l e R s m args below meth c g cc own nL ret) {x y : Int32} {off : Int} {tgt : Nat} {o1 o2 : Option β} (hd : decode cc pc = .ok (.if_icmp .le off, 3)) (ht : (pc : Int) + off = (tgt : Int)) (kt : x ≤ y → dk_J p l e R s m args below meth c g nL qa tgt lv st S o1 K) (kf : ¬ x ≤ y → dk_J p l e R s m args below meth c g nL qa (pc + 3) lv st S o2 K) : dk_J p l e R s m args below meth c g nL qa pc lv (.int y :: .int x :: st) S (if x ≤ y then o1 else o2) K := fun out ho H locs ls hP hS hl => lv_icmp_le C.1 C.2.1 hd ht (fun h => kt h out (by rw [if_pos h] at ho; exact ho) H locs ls hP hS hl) (fun h => kf h out (by rw [if_neg h] at ho; exact ho) H locs ls hP hS hl)
theorem dj_goto (C : dk_C p l e R s m args below meth c g cc own nL ret) {off : Int} {tgt : Nat} (hd : decode cc pc = .ok (.goto off, 3)) (ht : (pc : Int) + off = (tgt : Int)) (k : dk_J p l e R s m args below meth c g nL qa tgt lv st S o K) : dk_J p l e R s m args below meth c g nL qa pc lv st S o K := fun out ho H locs ls hP hS hl => lv_goto C.1 C.2.1 hd ht (k out ho H locs ls hP hS hl)
theorem dj_tsw_in (C : dk_C p l e R s m args below meth c g cc own nL ret) {dflt lo hi : Int} {offs : Array Int} {len : Nat} {x : Int32} {off : Int} {tgt : Nat} (hd : decode cc pc = .ok (.tableswitch dflt lo hi offs, len)) (h1 : ¬ x.toInt < lo) (h2 : ¬ hi < x.toInt) (ho : offs[(x.toInt - lo).toNat]? = some off) (ht : (pc : Int) + off = (tgt : Int)) (k : dk_J p l e R s m args below meth c g nL qa tgt lv st S o K) : dk_J p l e R s m args below meth c g nL qa pc lv (.int x :: st) S o K := fun out ho2 H locs ls hP hS hl => lv_tableIn C.1 C.2.1 hd h1 h2 ho ht (k out ho2 H locs ls hP hS hl)
theorem dj_tsw_out (C : dk_C p l e R s m args below meth c g cc own nL ret) {dflt lo hi : Int} {offs : Array Int} {len : Nat} {x : Int32} {tgt : Nat} (hd : decode cc pc = .ok (.tableswitch dflt lo hi offs, len)) (h : x.toInt < lo ∨ hi < x.toInt) (ht : (pc : Int) + dflt = (tgt : Int)) (k : dk_J p l e R s m args below meth c g nL qa tgt lv st S o K) : dk_J p l e R s m args below meth c g nL qa pc lv (.int x :: st) S o K := fun out ho2 H locs ls hP hS hl => lv_tableOut C.1 C.2.1 hd h ht (k out ho2 H locs ls hP hS hl)
theorem dj_ite {o1 o2 : Option β} {P : Prop} {dp : Decidable P} (k1 : P → dk_J p l e R s m args below meth c g nL qa pc lv st S o1 K) (k2 : ¬ P → dk_J p l e R s m args below meth c g nL qa pc lv st S o2 K) : dk_J p l e R s m args below meth c g nL qa pc lv st S (if P then o1 else o2) K := by
  by_cases h : P
  · rw [if_pos h]; exact k1 h
  · rw [if_neg h]; exact k2 h
/-! fields: 'dk_F own index ref t j': the link of class t's slot j -/
def dk_F (own : String) (index t j : Nat) : Prop := ∃ (C : String) (T : u_T) (N : Nat) (ref : String) (ty0 : Nat → FieldType), vwCl[t]? = some (C, T, N) ∧ t < 10 ∧ j < N ∧ N = (dk_fl t).length ∧ (∀ w ∈ u_ws C T N, w ∈ dk_tb) ∧ (∀ k, k < N → parseFieldDescriptor (T k).2.2.1 = some (ty0 k)) ∧ (∀ a, a < N → ∀ b, b < N → a ≠ b → (T a).2.1 ≠ (T b).2.1) ∧ ref = (T j).1 ∧ Cond.fieldLink own index ref (T j).2.1 (T j).2.2.1 ∈ dk_tb
def dk_Fp (t j : Nat) (ty : FieldType) : Prop := ∀ (C : String) (T : u_T) (N : Nat), vwCl[t]? = some (C, T, N) → (T j).2.2.2 = false ∧ parseFieldDescriptor (T j).2.2.1 = some ty
theorem dj_getv (C : dk_C p l e R s m args below meth c g cc own nL ret) {index t j u k : Nat} (hf : dk_F own index t j) (hu : (dk_fl t)[j]? = some u) (hk : dk_kd k = t) (hd : decode cc pc = .ok (.getfield index, 3)) (kk : dk_J p l e R s m args below meth c g nL qa (pc + 3) lv (dk_fv g k (S.1 k) (S.2 k) u j :: st) S o K) : dk_J p l e R s m args below meth c g nL qa pc lv (.ref (g.1 k) :: st) S o K := by
  obtain ⟨Cn, T, N, ref, ty0, h1, h2, h3, h4, h5, h6, h7, h8, h9⟩ := hf
  intro out ho H locs ls hP hS hl
  subst h8
  exact va_get C.1 C.2.1 C.2.2.2.2.1 h5 C.2.2.2.1 C.2.2.2.2.2.2.2.2.2 hP k (dk_obj hk h2) h1 j h3 (C.2.2.2.2.1 _ h9) (fun _ h => h) (dk_fs_get hu) hd (kk out ho H locs ls hP hS hl)
theorem dj_geti (C : dk_C p l e R s m args below meth c g cc own nL ret) {index t j k : Nat} (hf : dk_F own index t j) (hu : (dk_fl t)[j]? = some 0) (hk : dk_kd k = t) (hd : decode cc pc = .ok (.getfield index, 3)) (kk : dk_J p l e R s m args below meth c g nL qa (pc + 3) lv (.int (S.1 k j) :: st) S o K) : dk_J p l e R s m args below meth c g nL qa pc lv (.ref (g.1 k) :: st) S o K := dj_getv C hf hu hk hd kk
theorem dj_getl (C : dk_C p l e R s m args below meth c g cc own nL ret) {index t j k : Nat} (hf : dk_F own index t j) (hu : (dk_fl t)[j]? = some 1) (hk : dk_kd k = t) (hd : decode cc pc = .ok (.getfield index, 3)) (kk : dk_J p l e R s m args below meth c g nL qa (pc + 3) lv (.long (S.2 k j) :: st) S o K) : dk_J p l e R s m args below meth c g nL qa pc lv (.ref (g.1 k) :: st) S o K := dj_getv C hf hu hk hd kk
theorem dj_getr (C : dk_C p l e R s m args below meth c g cc own nL ret) {index t j k r k2 : Nat} (hf : dk_F own index t j) (hu : (dk_fl t)[j]? = some (r + 2)) (hk : dk_kd k = t) (hk2 : k + r = k2) (hd : decode cc pc = .ok (.getfield index, 3)) (kk : dk_J p l e R s m args below meth c g nL qa (pc + 3) lv (.ref (g.1 k2) :: st) S o K) : dk_J p l e R s m args below meth c g nL qa pc lv (.ref (g.1 k) :: st) S o K := by
  subst hk2
  exact dj_getv C hf hu hk hd kk
theorem dj_puti (C : dk_C p l e R s m args below meth c g cc own nL ret) {index t j k : Nat} {v : Int32} {f : dk_S → Option β} (hf : dk_F own index t j) (hp : dk_Fp t j .int) (hu : (dk_fl t)[j]? = some 0) (hk : dk_kd k = t) (hd : decode cc pc = .ok (.putfield index, 3)) (kk : ∀ S1, dk_J p l e R s m args below meth c g nL qa (pc + 3) lv st S1 (f S1) K) : dk_J p l e R s m args below meth c g nL qa pc lv (.int v :: .ref (g.1 k) :: st) S (dk_lt (dk_si S k j v) f) K := by
  obtain ⟨Cn, T, N, ref, ty0, h1, h2, h3, h4, h5, h6, h7, h8, h9⟩ := hf
  obtain ⟨hp1, hp2⟩ := hp _ _ _ h1
  intro out ho H locs ls hP hS hl
  subst h8
  refine va_put (A := dk_A g) C.1 C.2.1 C.2.2.2.2.1 h5 ty0 h6 h7 C.2.2.2.1 C.2.2.2.2.2.2.2.2.2 hP (dk_D C.2.2.2.2.2.2.2.1 S) hS k (dk_obj hk h2) h1 j h3 (C.2.2.2.2.1 _ h9) (fun _ h => h) hp1 hp2 rfl rfl (by rw [dk_fs_len, ← h4]; exact h3) hd (fun H1 locs1 hP1 hD1 hS1 => ?_)
  rw [dk_put_i hk h2 hu] at hP1
  exact kk _ out ho H1 locs1 ls hP1 hS1 hl
theorem dj_putz (C : dk_C p l e R s m args below meth c g cc own nL ret) {index t j k : Nat} {v : Int32} {f : dk_S → Option β} (hf : dk_F own index t j) (hp : dk_Fp t j .boolean) (hu : (dk_fl t)[j]? = some 0) (hk : dk_kd k = t) (hn : v = 0 ∨ v = 1) (hd : decode cc pc = .ok (.putfield index, 3)) (kk : ∀ S1, dk_J p l e R s m args below meth c g nL qa (pc + 3) lv st S1 (f S1) K) : dk_J p l e R s m args below meth c g nL qa pc lv (.int v :: .ref (g.1 k) :: st) S (dk_lt (dk_si S k j v) f) K := by
  obtain ⟨Cn, T, N, ref, ty0, h1, h2, h3, h4, h5, h6, h7, h8, h9⟩ := hf
  obtain ⟨hp1, hp2⟩ := hp _ _ _ h1
  intro out ho H locs ls hP hS hl
  subst h8
  refine va_put (A := dk_A g) C.1 C.2.1 C.2.2.2.2.1 h5 ty0 h6 h7 C.2.2.2.1 C.2.2.2.2.2.2.2.2.2 hP (dk_D C.2.2.2.2.2.2.2.1 S) hS k (dk_obj hk h2) h1 j h3 (C.2.2.2.2.1 _ h9) (fun _ h => h) hp1 hp2 (by rcases hn with rfl | rfl <;> rfl) (by rcases hn with rfl | rfl <;> rfl) (by rw [dk_fs_len, ← h4]; exact h3) hd (fun H1 locs1 hP1 hD1 hS1 => ?_)
  rw [dk_put_i hk h2 hu] at hP1
  exact kk _ out ho H1 locs1 ls hP1 hS1 hl
theorem dj_putzg (C : dk_C p l e R s m args below meth c g cc own nL ret) {index t j k : Nat} {v : Int32} {f : dk_S → Option β} (hf : dk_F own index t j) (hp : dk_Fp t j .boolean) (hu : (dk_fl t)[j]? = some 0) (hk : dk_kd k = t) (hd : decode cc pc = .ok (.putfield index, 3)) (kk : ∀ S1, dk_J p l e R s m args below meth c g nL qa (pc + 3) lv st S1 (f S1) K) : dk_J p l e R s m args below meth c g nL qa pc lv (.int v :: .ref (g.1 k) :: st) S (dk_gd (decide (v = 0 ∨ v = 1)) (dk_lt (dk_si S k j v) f)) K := dj_gd fun hv => dj_putz C hf hp hu hk (of_decide_eq_true hv) hd kk
theorem dj_putl (C : dk_C p l e R s m args below meth c g cc own nL ret) {index t j k : Nat} {v : Int64} {f : dk_S → Option β} (hf : dk_F own index t j) (hp : dk_Fp t j .long) (hu : (dk_fl t)[j]? = some 1) (hk : dk_kd k = t) (hd : decode cc pc = .ok (.putfield index, 3)) (kk : ∀ S1, dk_J p l e R s m args below meth c g nL qa (pc + 3) lv st S1 (f S1) K) : dk_J p l e R s m args below meth c g nL qa pc lv (.long v :: .ref (g.1 k) :: st) S (dk_lt (dk_sl S k j v) f) K := by
  obtain ⟨Cn, T, N, ref, ty0, h1, h2, h3, h4, h5, h6, h7, h8, h9⟩ := hf
  obtain ⟨hp1, hp2⟩ := hp _ _ _ h1
  intro out ho H locs ls hP hS hl
  subst h8
  refine va_put (A := dk_A g) C.1 C.2.1 C.2.2.2.2.1 h5 ty0 h6 h7 C.2.2.2.1 C.2.2.2.2.2.2.2.2.2 hP (dk_D C.2.2.2.2.2.2.2.1 S) hS k (dk_obj hk h2) h1 j h3 (C.2.2.2.2.1 _ h9) (fun _ h => h) hp1 hp2 rfl rfl (by rw [dk_fs_len, ← h4]; exact h3) hd (fun H1 locs1 hP1 hD1 hS1 => ?_)
  rw [dk_put_l hk h2 hu] at hP1
  exact kk _ out ho H1 locs1 ls hP1 hS1 hl
/-! rows of numbers: the index is looked at; or it is a number n within -/
def dk_in (i : Int32) (n : Nat) : Bool := decide (¬ (i < 0 ∨ n ≤ i.toNatClampNeg))
theorem dk_in_of {i : Int32} {n : Nat} (h : dk_in i n = true) : vp_in i n := show ¬ (i < 0 ∨ n ≤ i.toNatClampNeg) from of_decide_eq_true h
theorem dj_iald (C : dk_C p l e R s m args below meth c g cc own nL ret) {k n : Nat} {i : Int32} (hk : dk_kd k = 1000 + n) (hn : n < 1000) (hd : decode cc pc = .ok (.iaload, 1)) (kk : dk_J p l e R s m args below meth c g nL qa (pc + 1) lv (.int (S.1 k i.toNatClampNeg) :: st) S o K) : dk_J p l e R s m args below meth c g nL qa pc lv (.int i :: .ref (g.1 k) :: st) S (dk_gd (dk_in i n) o) K := dj_gd fun hi out ho H locs ls hP hS hl => va_iald C.1 C.2.1 C.2.2.2.2.2.2.2.2.2 hP k 0 (dk_ari hk hn) rfl (dk_in_of hi) hd (kk out ho H locs ls hP hS hl)
theorem dj_ialdn (C : dk_C p l e R s m args below meth c g cc own nL ret) {k n j : Nat} {i : Int32} (hk : dk_kd k = 1000 + n) (hn : n < 1000) (hi : dk_in i n = true) (hj : i.toNatClampNeg = j) (hd : decode cc pc = .ok (.iaload, 1)) (kk : dk_J p l e R s m args below meth c g nL qa (pc + 1) lv (.int (S.1 k j) :: st) S o K) : dk_J p l e R s m args below meth c g nL qa pc lv (.int i :: .ref (g.1 k) :: st) S o K := fun out ho H locs ls hP hS hl => va_iald C.1 C.2.1 C.2.2.2.2.2.2.2.2.2 hP k 0 (dk_ari hk hn) rfl (dk_in_of hi) hd (by rw [hj]; exact kk out ho H locs ls hP hS hl)
theorem dj_bald (C : dk_C p l e R s m args below meth c g cc own nL ret) {k n : Nat} {i : Int32} (hk : dk_kd k = 2000 + n) (hn : n < 1000) (hd : decode cc pc = .ok (.baload, 1)) (kk : dk_J p l e R s m args below meth c g nL qa (pc + 1) lv (.int (S.1 k i.toNatClampNeg) :: st) S o K) : dk_J p l e R s m args below meth c g nL qa pc lv (.int i :: .ref (g.1 k) :: st) S (dk_gd (dk_in i n) o) K := dj_gd fun hi out ho H locs ls hP hS hl => va_bald C.1 C.2.1 C.2.2.2.2.2.2.2.2.2 hP k 1 (dk_arb hk hn) rfl (dk_in_of hi) hd (kk out ho H locs ls hP hS hl)
theorem dj_zald (C : dk_C p l e R s m args below meth c g cc own nL ret) {k n : Nat} {i : Int32} (hk : dk_kd k = 3000 + n) (hn : n < 1000) (hd : decode cc pc = .ok (.baload, 1)) (kk : dk_J p l e R s m args below meth c g nL qa (pc + 1) lv (.int (S.1 k i.toNatClampNeg) :: st) S o K) : dk_J p l e R s m args below meth c g nL qa pc lv (.int i :: .ref (g.1 k) :: st) S (dk_gd (dk_in i n) o) K := dj_gd fun hi out ho H locs ls hP hS hl => va_zald C.1 C.2.1 C.2.2.2.2.2.2.2.2.2 hP k 2 (dk_arz hk hn) rfl (dk_in_of hi) hd (kk out ho H locs ls hP hS hl)
theorem dj_zaldn (C : dk_C p l e R s m args below meth c g cc own nL ret) {k n j : Nat} {i : Int32} (hk : dk_kd k = 3000 + n) (hn : n < 1000) (hi : dk_in i n = true) (hj : i.toNatClampNeg = j) (hd : decode cc pc = .ok (.baload, 1)) (kk : dk_J p l e R s m args below meth c g nL qa (pc + 1) lv (.int (S.1 k j) :: st) S o K) : dk_J p l e R s m args below meth c g nL qa pc lv (.int i :: .ref (g.1 k) :: st) S o K := fun out ho H locs ls hP hS hl => va_zald C.1 C.2.1 C.2.2.2.2.2.2.2.2.2 hP k 2 (dk_arz hk hn) rfl (dk_in_of hi) hd (by rw [hj]; exact kk out ho H locs ls hP hS hl)
theorem dj_lald (C : dk_C p l e R s m args below meth c g cc own nL ret) {k n : Nat} {i : Int32} (hk : dk_kd k = 4000 + n) (hn : n < 1000) (hd : decode cc pc = .ok (.laload, 1)) (kk : dk_J p l e R s m args below meth c g nL qa (pc + 1) lv (.long (S.2 k i.toNatClampNeg) :: st) S o K) : dk_J p l e R s m args below meth c g nL qa pc lv (.int i :: .ref (g.1 k) :: st) S (dk_gd (dk_in i n) o) K := dj_gd fun hi out ho H locs ls hP hS hl => va_lald C.1 C.2.1 C.2.2.2.2.2.2.2.2.2 hP k 3 (dk_arl hk hn) rfl (dk_in_of hi) hd (kk out ho H locs ls hP hS hl)
theorem dj_iast (C : dk_C p l e R s m args below meth c g cc own nL ret) {k n : Nat} {i x : Int32} {f : dk_S → Option β} (hk : dk_kd k = 1000 + n) (hn : n < 1000) (hd : decode cc pc = .ok (.iastore, 1)) (kk : ∀ S1, dk_J p l e R s m args below meth c g nL qa (pc + 1) lv st S1 (f S1) K) : dk_J p l e R s m args below meth c g nL qa pc lv (.int x :: .int i :: .ref (g.1 k) :: st) S (dk_gd (dk_in i n) (dk_lt (dk_si S k i.toNatClampNeg x) f)) K := dj_gd fun hi out ho H locs ls hP hS hl => va_iast (A := dk_A g) C.1 C.2.1 C.2.2.2.2.2.2.2.2.2 hP (dk_D C.2.2.2.2.2.2.2.1 S) hS k 0 (dk_ari hk hn) rfl (dk_in_of hi) hd (fun H1 locs1 hP1 hD1 hS1 => kk _ out ho H1 locs1 ls (by rw [dk_sti hk hn] at hP1; exact hP1) hS1 hl)
theorem dj_iastn (C : dk_C p l e R s m args below meth c g cc own nL ret) {k n j : Nat} {i x : Int32} {f : dk_S → Option β} (hk : dk_kd k = 1000 + n) (hn : n < 1000) (hi : dk_in i n = true) (hj : i.toNatClampNeg = j) (hd : decode cc pc = .ok (.iastore, 1)) (kk : ∀ S1, dk_J p l e R s m args below meth c g nL qa (pc + 1) lv st S1 (f S1) K) : dk_J p l e R s m args below meth c g nL qa pc lv (.int x :: .int i :: .ref (g.1 k) :: st) S (dk_lt (dk_si S k j x) f) K := by
  subst hj
  exact fun out ho H locs ls hP hS hl => va_iast (A := dk_A g) C.1 C.2.1 C.2.2.2.2.2.2.2.2.2 hP (dk_D C.2.2.2.2.2.2.2.1 S) hS k 0 (dk_ari hk hn) rfl (dk_in_of hi) hd (fun H1 locs1 hP1 hD1 hS1 => kk _ out ho H1 locs1 ls (by rw [dk_sti hk hn] at hP1; exact hP1) hS1 hl)
theorem dj_bast (C : dk_C p l e R s m args below meth c g cc own nL ret) {k n : Nat} {i x : Int32} {f : dk_S → Option β} (hk : dk_kd k = 2000 + n) (hn : n < 1000) (hd : decode cc pc = .ok (.bastore, 1)) (kk : ∀ S1, dk_J p l e R s m args below meth c g nL qa (pc + 1) lv st S1 (f S1) K) : dk_J p l e R s m args below meth c g nL qa pc lv (.int x :: .int i :: .ref (g.1 k) :: st) S (dk_gd (dk_in i n) (dk_lt (dk_si S k i.toNatClampNeg (vp_nar .byte x)) f)) K := dj_gd fun hi out ho H locs ls hP hS hl => va_bast (A := dk_A g) C.1 C.2.1 C.2.2.2.2.2.2.2.2.2 hP (dk_D C.2.2.2.2.2.2.2.1 S) hS k 1 (dk_arb hk hn) rfl (dk_in_of hi) hd (fun H1 locs1 hP1 hD1 hS1 => kk _ out ho H1 locs1 ls (by rw [dk_stb hk hn] at hP1; exact hP1) hS1 hl)
theorem dj_zast (C : dk_C p l e R s m args below meth c g cc own nL ret) {k n : Nat} {i x : Int32} {f : dk_S → Option β} (hk : dk_kd k = 3000 + n) (hn : n < 1000) (hd : decode cc pc = .ok (.bastore, 1)) (kk : ∀ S1, dk_J p l e R s m args below meth c g nL qa (pc + 1) lv st S1 (f S1) K) : dk_J p l e R s m args below meth c g nL qa pc lv (.int x :: .int i :: .ref (g.1 k) :: st) S (dk_gd (dk_in i n) (dk_lt (dk_si S k i.toNatClampNeg (vp_nar .boolean x)) f)) K := dj_gd fun hi out ho H locs ls hP hS hl => va_zast (A := dk_A g) C.1 C.2.1 C.2.2.2.2.2.2.2.2.2 hP (dk_D C.2.2.2.2.2.2.2.1 S) hS k 2 (dk_arz hk hn) rfl (dk_in_of hi) hd (fun H1 locs1 hP1 hD1 hS1 => kk _ out ho H1 locs1 ls (by rw [dk_stz hk hn] at hP1; exact hP1) hS1 hl)
theorem dj_zastn (C : dk_C p l e R s m args below meth c g cc own nL ret) {k n j : Nat} {i x : Int32} {f : dk_S → Option β} (hk : dk_kd k = 3000 + n) (hn : n < 1000) (hi : dk_in i n = true) (hj : i.toNatClampNeg = j) (hd : decode cc pc = .ok (.bastore, 1)) (kk : ∀ S1, dk_J p l e R s m args below meth c g nL qa (pc + 1) lv st S1 (f S1) K) : dk_J p l e R s m args below meth c g nL qa pc lv (.int x :: .int i :: .ref (g.1 k) :: st) S (dk_lt (dk_si S k j (vp_nar .boolean x)) f) K := by
  subst hj
  exact fun out ho H locs ls hP hS hl => va_zast (A := dk_A g) C.1 C.2.1 C.2.2.2.2.2.2.2.2.2 hP (dk_D C.2.2.2.2.2.2.2.1 S) hS k 2 (dk_arz hk hn) rfl (dk_in_of hi) hd (fun H1 locs1 hP1 hD1 hS1 => kk _ out ho H1 locs1 ls (by rw [dk_stz hk hn] at hP1; exact hP1) hS1 hl)
theorem dj_last (C : dk_C p l e R s m args below meth c g cc own nL ret) {k n : Nat} {i : Int32} {x : Int64} {f : dk_S → Option β} (hk : dk_kd k = 4000 + n) (hn : n < 1000) (hd : decode cc pc = .ok (.lastore, 1)) (kk : ∀ S1, dk_J p l e R s m args below meth c g nL qa (pc + 1) lv st S1 (f S1) K) : dk_J p l e R s m args below meth c g nL qa pc lv (.long x :: .int i :: .ref (g.1 k) :: st) S (dk_gd (dk_in i n) (dk_lt (dk_sl S k i.toNatClampNeg x) f)) K := dj_gd fun hi out ho H locs ls hP hS hl => va_last (A := dk_A g) C.1 C.2.1 C.2.2.2.2.2.2.2.2.2 hP (dk_D C.2.2.2.2.2.2.2.1 S) hS k 3 (dk_arl hk hn) rfl (dk_in_of hi) hd (fun H1 locs1 hP1 hD1 hS1 => kk _ out ho H1 locs1 ls (by rw [dk_stl hk hn] at hP1; exact hP1) hS1 hl)
theorem dj_alen (C : dk_C p l e R s m args below meth c g cc own nL ret) {k n : Nat} {v : Int32} (hk : dk_kd k = 1000 + n) (hn : n < 1000) (hv : Int32.ofNat n = v) (hd : decode cc pc = .ok (.arraylength, 1)) (kk : dk_J p l e R s m args below meth c g nL qa (pc + 1) lv (.int v :: st) S o K) : dk_J p l e R s m args below meth c g nL qa pc lv (.ref (g.1 k) :: st) S o K := fun out ho H locs ls hP hS hl => va_alen C.1 C.2.1 C.2.2.2.2.2.2.2.2.2 hP k 0 (dk_ari hk hn) rfl hv hd (kk out ho H locs ls hP hS hl)
theorem dj_blen (C : dk_C p l e R s m args below meth c g cc own nL ret) {k n : Nat} {v : Int32} (hk : dk_kd k = 2000 + n) (hn : n < 1000) (hv : Int32.ofNat n = v) (hd : decode cc pc = .ok (.arraylength, 1)) (kk : dk_J p l e R s m args below meth c g nL qa (pc + 1) lv (.int v :: st) S o K) : dk_J p l e R s m args below meth c g nL qa pc lv (.ref (g.1 k) :: st) S o K := fun out ho H locs ls hP hS hl => va_alen C.1 C.2.1 C.2.2.2.2.2.2.2.2.2 hP k 1 (dk_arb hk hn) rfl hv hd (kk out ho H locs ls hP hS hl)
/-! rows of references: t the row's kind, n its length, its cells b + d i -/
def dk_Rw (t n b d q : Nat) : Prop := ∀ (g : dk_G) (S : dk_S) (k : Nat), dk_kd k = t → ∃ Cn, (dk_wd g S)[k]? = some (g.1 k, .inl (g.2.2 q, n, .inr (.inr (.inr (.inr (dk_rfs g b d)))))) ∧ (dk_tys g)[q]? = some (g.2.2 q, .object Cn)
theorem dj_aald (C : dk_C p l e R s m args below meth c g cc own nL ret) {k t n b d q : Nat} {i : Int32} (hr : dk_Rw t n b d q) (hk : dk_kd k = t) (hd : decode cc pc = .ok (.aaload, 1)) (kk : dk_in i n = true → dk_J p l e R s m args below meth c g nL qa (pc + 1) lv (.ref (g.1 (b + d * i.toNatClampNeg)) :: st) S o K) : dk_J p l e R s m args below meth c g nL qa pc lv (.int i :: .ref (g.1 k) :: st) S (dk_gd (dk_in i n) o) K := dj_gd fun hi out ho H locs ls hP hS hl => by
  obtain ⟨Cn, h1, h2⟩ := hr g S k hk
  exact va_aldq C.1 C.2.1 C.2.2.2.2.2.2.2.2.2 hP k q h1 h2 (dk_in_of hi) hd (kk hi out ho H locs ls hP hS hl)
/-! calls -/
theorem dk_callQ {mc ms : Nat} {H : Heap} {locs : List Loc} {ls : Array Slot} {rest st0 : List Value} {a : Array Value} {A0 A1 : Nat → Prop} {H0 : Heap} {free : Addr → Prop} {v : Option Value} {B : State → Prop} {Q : State → Prop} {cells slots : Nat} (hr : va_Run p l e R s m args below meth c H locs cells slots mc ms (F0 m pc ls st0) rest (dk_Qm A1 v B a) free) (hS : va_S A0 H0 H locs) (hA : ∀ q, q < H.size → A1 q → A0 q) (hf : ∀ q, free q → A0 q)
    (kk : ∀ (t : State) (H1 : Heap) (locs1 : List Loc), t.heap = H1 → B t → va_S A0 H0 H1 locs1 → W p l e R s m args below meth c H1 locs1 (cells + mc) (slots + ms) Q (F0 m (pc + 3) ls (v.toList ++ rest))) : W p l e R s m args below meth c H locs cells slots Q (F0 m pc ls st0) := by
  intro T hT X
  obtain ⟨v1, st₀, t, T', L, h0, X', hL, e1, e2, ⟨⟨hv, hb⟩, hz, hk⟩, st⟩ := hr T hT X
  cases hv
  rw [h0] at hz hk
  obtain ⟨t2, a1, b1⟩ := kk t T'.heap (locs ++ L) e1.symm hb
    ⟨Nat.le_trans hS.1 (by rw [e1]; exact hz), fun q h1 h2 => by rw [e1, hk q (Nat.lt_of_lt_of_le h1 hS.1) (fun z => h2 (hA q (Nat.lt_of_lt_of_le h1 hS.1) z))]; exact hS.2.1 q h1 h2, fun q hq => by
      rcases List.mem_append.mp hq with h | h
      · exact hS.2.2 q h
      · exact hf _ (hL q h)⟩ T' rfl X'
  exact ⟨t2, st t2 a1, b1⟩
theorem dk_blind (g : dk_G) (S : dk_S) (av : List Value) : FrameBlind (va_Pc av (dk_B g S)) := fun a U gg mk q => by
  obtain ⟨q0, q1, q2, q3, q4⟩ := q
  exact ⟨q0, q1, dk_N.same (u := U) (U := U.calling gg mk a) rfl q2, va_K.moved (u := U) (U := U.calling gg mk a) (Vm.Alike.refl U.vm) q3, q4⟩
/-- the words of a call: instance methods, static ones of the own class or another's, a nest mate's static one -/
def dk_WV (own : String) (index : Nat) (y : MethodName) (cc2 : ByteArray) (nL2 : Nat) (ret2 : Option FieldType) (n : Nat) : Prop := Cond.methodLink own index y ∈ dk_tb ∧ Cond.instanceMethod y ∈ dk_tb ∧ Cond.selects y.cls y y ∈ dk_tb ∧ Cond.initialized y.cls ∈ dk_tb ∧ Cond.code y cc2 nL2 ret2 ∈ dk_tb ∧ y.cls ≠ "java/lang/invoke/MethodHandle" ∧ y.cls ≠ "java/lang/invoke/VarHandle" ∧ (parseMethodDescriptor y.desc).map (fun d => d.parameters.length) = some n
def dk_WS (own : String) (index : Nat) (y : MethodName) (cc2 : ByteArray) (nL2 : Nat) (ret2 : Option FieldType) (n : Nat) : Prop := Cond.methodLink own index y ∈ dk_tb ∧ Cond.static y ∈ dk_tb ∧ Cond.initialized y.cls ∈ dk_tb ∧ Cond.code y cc2 nL2 ret2 ∈ dk_tb ∧ y.cls ≠ "java/lang/invoke/MethodHandle" ∧ y.cls ≠ "java/lang/invoke/VarHandle" ∧ (parseMethodDescriptor y.desc).map (fun d => d.parameters.length) = some n
def dk_WN (own : String) (index : Nat) (y : MethodName) (cc2 : ByteArray) (nL2 : Nat) (ret2 : Option FieldType) (n : Nat) : Prop := (∃ host, Cond.methodLinkNest own index y host ∈ dk_nws) ∧ Cond.static y ∈ dk_tb ∧ Cond.initialized y.cls ∈ dk_tb ∧ Cond.code y cc2 nL2 ret2 ∈ dk_tb ∧ y.cls ≠ "java/lang/invoke/MethodHandle" ∧ y.cls ≠ "java/lang/invoke/VarHandle" ∧ (parseMethodDescriptor y.desc).map (fun d => d.parameters.length) = some n
theorem dj_callV (C : dk_C p l e R s m args below meth c g cc own nL ret) {index fr2 lo2 nL2 n : Nat} {y : MethodName} {cc2 : ByteArray} {ret2 : Option FieldType} {k t : Nat} {As : List Value} {α2 : Type} {o2 : Option α2} {qa2 : α2 → Option Value × dk_S} {f : α2 → Option β} (hw : dk_WV own index y cc2 nL2 ret2 n) (hc : ∃ T N, vwCl[t]? = some (y.cls, T, N)) (ht : t < 10) (hk : dk_kd k = t) (hM : dk_M l g y cc2 nL2 ret2 fr2 lo2 (.ref (g.1 k) :: As) S o2 qa2) (hR : fr2 + 1 ≤ R.frames ∧ 8 + (nL2 + 11) + lo2 ≤ R.locals) (hn : As.length = n) (hst : (st.map fun v => v.category).sum ≤ 8) {st0 : List Value} (hs0 : st0 = As.reverse ++ .ref (g.1 k) :: st) (hd : decode cc pc = .ok (.invokevirtual index, 3)) (kk : ∀ r, dk_J p l e R s m args below meth c g nL qa (pc + 3) lv ((qa2 r).1.toList ++ st) (qa2 r).2 (f r) K) : dk_J p l e R s m args below meth c g nL qa pc lv st0 S (o2.bind f) K := by
  intro out ho H locs ls hP hS hl
  subst hs0
  obtain ⟨w1, w2, w3, w4, w5, w6, w7, w8⟩ := hw
  obtain ⟨T, N, hc⟩ := hc
  obtain ⟨hx, hb, hml, hown, hts, -, -, hinj, hN, hK⟩ := C
  cases ho2 : o2 with
  | none => rw [ho2] at ho; simp at ho
  | some r =>
    rw [ho2] at ho
    have hrun := va_runV (cells := 0) (slots := 0) (locs := locs) (e := e) (below := below) (meth := meth) (p := p) (l := l) (R := R) (H := H) (As := As) (rest := st) (b := g.1 k) (C := y.cls) (g := F0 m pc ls (As.reverse ++ .ref (g.1 k) :: st)) (Ts := dk_tb) ⟨hx, hb, hml, hown, hts⟩ (hM r ho2) (cwV n hts (fun w hw => by
      rcases List.mem_append.mp hw with h | h
      · simp only [List.mem_cons, List.not_mem_nil, or_false] at h
        rcases h with rfl | rfl | rfl | rfl
        · exact ⟨w1, good_of_word (List.mem_filter.mp w1).2⟩
        · exact ⟨w2, good_of_word (List.mem_filter.mp w2).2⟩
        · exact ⟨w3, good_of_word (List.mem_filter.mp w3).2⟩
        · exact ⟨w4, good_of_word (List.mem_filter.mp w4).2⟩
      · exact dk_good w5 w h) rfl rfl rfl ⟨rfl, w6, w7, w8⟩ hR)
      ⟨dk_blind g S _, va_recv hK hP hc (dk_obj hk ht), fun U hU hW => ⟨rfl, hinj, hN.warm hW, va_K.moved hW.alike hK, by rw [hU]; exact hP⟩⟩ rfl hn hl.1 rfl (lv_room hst) hd ⟨Nat.zero_le _, Nat.zero_le _⟩
    exact dk_callQ hrun hS (fun q _ h => h) (fun q h => h) (fun t H1 locs1 ht1 hB hS1 => kk r out ho H1 locs1 ls (by rw [← ht1]; exact hB) hS1 hl)
theorem dj_callS (C : dk_C p l e R s m args below meth c g cc own nL ret) {index fr2 lo2 nL2 n : Nat} {y : MethodName} {cc2 : ByteArray} {ret2 : Option FieldType} {As : List Value} {α2 : Type} {o2 : Option α2} {qa2 : α2 → Option Value × dk_S} {f : α2 → Option β} (hw : dk_WS own index y cc2 nL2 ret2 n) (hM : dk_M l g y cc2 nL2 ret2 fr2 lo2 As S o2 qa2) (hR : fr2 + 1 ≤ R.frames ∧ 8 + (nL2 + 11) + lo2 ≤ R.locals) (hn : As.length = n) (hst : (st.map fun v => v.category).sum ≤ 8) {st0 : List Value} (hs0 : st0 = As.reverse ++ st) (hd : decode cc pc = .ok (.invokestatic index, 3)) (kk : ∀ r, dk_J p l e R s m args below meth c g nL qa (pc + 3) lv ((qa2 r).1.toList ++ st) (qa2 r).2 (f r) K) : dk_J p l e R s m args below meth c g nL qa pc lv st0 S (o2.bind f) K := by
  intro out ho H locs ls hP hS hl
  subst hs0
  obtain ⟨w1, w2, w4, w5, w6, w7, w8⟩ := hw
  obtain ⟨hx, hb, hml, hown, hts, -, -, hinj, hN, hK⟩ := C
  cases ho2 : o2 with
  | none => rw [ho2] at ho; simp at ho
  | some r =>
    rw [ho2] at ho
    have hrun := va_runS (cells := 0) (slots := 0) (locs := locs) (e := e) (below := below) (meth := meth) (p := p) (l := l) (R := R) (H := H) (As := As) (rest := st) (g := F0 m pc ls (As.reverse ++ st)) (Ts := dk_tb) ⟨hx, hb, hml, hown, hts⟩ (hM r ho2) ⟨callB_of n hts (dk_good w5) rfl rfl rfl (hts _ w4) (hts _ w1) ⟨w6, w7, w8⟩ hR, hts _ w2⟩
      ⟨dk_blind g S _, fun U hU hW => ⟨rfl, hinj, hN.warm hW, va_K.moved hW.alike hK, by rw [hU]; exact hP⟩⟩ rfl hn hl.1 rfl (lv_room hst) hd ⟨Nat.zero_le _, Nat.zero_le _⟩
    exact dk_callQ hrun hS (fun q _ h => h) (fun q h => h) (fun t H1 locs1 ht1 hB hS1 => kk r out ho H1 locs1 ls (by rw [← ht1]; exact hB) hS1 hl)
theorem dj_callN (C : dk_C p l e R s m args below meth c g cc own nL ret) {index fr2 lo2 nL2 n : Nat} {y : MethodName} {cc2 : ByteArray} {ret2 : Option FieldType} {As : List Value} {α2 : Type} {o2 : Option α2} {qa2 : α2 → Option Value × dk_S} {f : α2 → Option β} (hw : dk_WN own index y cc2 nL2 ret2 n) (hM : dk_M l g y cc2 nL2 ret2 fr2 lo2 As S o2 qa2) (hR : fr2 + 1 ≤ R.frames ∧ 8 + (nL2 + 11) + lo2 ≤ R.locals) (hn : As.length = n) (hst : (st.map fun v => v.category).sum ≤ 8) {st0 : List Value} (hs0 : st0 = As.reverse ++ st) (hd : decode cc pc = .ok (.invokestatic index, 3)) (kk : ∀ r, dk_J p l e R s m args below meth c g nL qa (pc + 3) lv ((qa2 r).1.toList ++ st) (qa2 r).2 (f r) K) : dk_J p l e R s m args below meth c g nL qa pc lv st0 S (o2.bind f) K := by
  intro out ho H locs ls hP hS hl
  subst hs0
  obtain ⟨⟨host, w1⟩, w2, w4, w5, w6, w7, w8⟩ := hw
  obtain ⟨hx, hb, hml, hown, hts, -, -, hinj, hN, hK⟩ := C
  cases ho2 : o2 with
  | none => rw [ho2] at ho; simp at ho
  | some r =>
    rw [ho2] at ho
    have hrun := va_runSN (cells := 0) (slots := 0) (locs := locs) (e := e) (below := below) (meth := meth) (p := p) (l := l) (R := R) (H := H) (As := As) (rest := st) (g := F0 m pc ls (As.reverse ++ st)) (Ts := dk_tb) ⟨hx, hb, hml, hown, hts⟩ (hM r ho2) ⟨va_cnB n hts (dk_good w5) rfl rfl rfl (hN _ w1) (hts _ w4) ⟨w6, w7, w8⟩ hR, hts _ w2, trivial⟩
      ⟨dk_blind g S _, fun U hU hW => ⟨rfl, hinj, hN.warm hW, va_K.moved hW.alike hK, by rw [hU]; exact hP⟩⟩ rfl hn hl.1 rfl (lv_room hst) hd ⟨Nat.zero_le _, Nat.zero_le _⟩
    exact dk_callQ hrun hS (fun q _ h => h) (fun q h => h) (fun t H1 locs1 ht1 hB hS1 => kk r out ho H1 locs1 ls (by rw [← ht1]; exact hB) hS1 hl)
end dkrows
end
section
theorem dl_ws0 : ∀ w ∈ u_ws RX0 TX0 10, w ∈ dk_tb := by decide +kernel
theorem dl_ws1 : ∀ w ∈ u_ws RX1 TX1 3, w ∈ dk_tb := by decide +kernel
theorem dl_ws2 : ∀ w ∈ u_ws RX2 TX2 4, w ∈ dk_tb := by decide +kernel
theorem dl_ws3 : ∀ w ∈ u_ws RX3 TX3 3, w ∈ dk_tb := by decide +kernel
theorem dl_ws4 : ∀ w ∈ u_ws RX4 TX4 4, w ∈ dk_tb := by decide +kernel
theorem dl_ws5 : ∀ w ∈ u_ws RX5 TX5 2, w ∈ dk_tb := by decide +kernel
theorem dl_ws6 : ∀ w ∈ u_ws RX6 TX6 2, w ∈ dk_tb := by decide +kernel
theorem dl_ws7 : ∀ w ∈ u_ws RX7 TX7 8, w ∈ dk_tb := by decide +kernel
theorem dl_ws8 : ∀ w ∈ u_ws RX8 TX8 15, w ∈ dk_tb := by decide +kernel
theorem dl_ws9 : ∀ w ∈ u_ws RX9 TX9 41, w ∈ dk_tb := by decide +kernel
theorem dl_X1_9 : dk_F "DuckWalk$Duck" 9 1 0 := ⟨RX1, TX1, 3, _, tyX1, rfl, by decide, by decide, rfl, dl_ws1, tyX1_ok, nmX1, rfl, dk_m1 44 rfl rfl⟩
theorem dl_X2_33 : dk_F "DuckWalk$Guess" 33 1 0 := ⟨RX1, TX1, 3, _, tyX1, rfl, by decide, by decide, rfl, dl_ws1, tyX1_ok, nmX1, rfl, dk_m1 45 rfl rfl⟩
theorem dl_X0_76 : dk_F "DuckWalk$Course" 76 1 0 := ⟨RX1, TX1, 3, _, tyX1, rfl, by decide, by decide, rfl, dl_ws1, tyX1_ok, nmX1, rfl, dk_m1 46 rfl rfl⟩
theorem dl_X4_61 : dk_F "DuckWalk$Reader" 61 1 0 := ⟨RX1, TX1, 3, _, tyX1, rfl, by decide, by decide, rfl, dl_ws1, tyX1_ok, nmX1, rfl, dk_m1 47 rfl rfl⟩
theorem dl_X8_226 : dk_F "DuckWalk" 226 1 0 := ⟨RX1, TX1, 3, _, tyX1, rfl, by decide, by decide, rfl, dl_ws1, tyX1_ok, nmX1, rfl, dk_m1 48 rfl rfl⟩
theorem dl_X1_15 : dk_F "DuckWalk$Duck" 15 1 1 := ⟨RX1, TX1, 3, _, tyX1, rfl, by decide, by decide, rfl, dl_ws1, tyX1_ok, nmX1, rfl, dk_m1 49 rfl rfl⟩
theorem dl_X4_65 : dk_F "DuckWalk$Reader" 65 1 1 := ⟨RX1, TX1, 3, _, tyX1, rfl, by decide, by decide, rfl, dl_ws1, tyX1_ok, nmX1, rfl, dk_m1 50 rfl rfl⟩
theorem dl_X8_205 : dk_F "DuckWalk" 205 1 1 := ⟨RX1, TX1, 3, _, tyX1, rfl, by decide, by decide, rfl, dl_ws1, tyX1_ok, nmX1, rfl, dk_m1 51 rfl rfl⟩
theorem dl_X1_19 : dk_F "DuckWalk$Duck" 19 1 2 := ⟨RX1, TX1, 3, _, tyX1, rfl, by decide, by decide, rfl, dl_ws1, tyX1_ok, nmX1, rfl, dk_m1 52 rfl rfl⟩
theorem dl_X8_110 : dk_F "DuckWalk" 110 1 2 := ⟨RX1, TX1, 3, _, tyX1, rfl, by decide, by decide, rfl, dl_ws1, tyX1_ok, nmX1, rfl, dk_m1 53 rfl rfl⟩
theorem dl_X3_9 : dk_F "DuckWalk$Plank" 9 3 0 := ⟨RX3, TX3, 3, _, tyX3, rfl, by decide, by decide, rfl, dl_ws3, tyX3_ok, nmX3, rfl, dk_m1 68 rfl rfl⟩
theorem dl_X4_74 : dk_F "DuckWalk$Reader" 74 3 0 := ⟨RX3, TX3, 3, _, tyX3, rfl, by decide, by decide, rfl, dl_ws3, tyX3_ok, nmX3, rfl, dk_m1 69 rfl rfl⟩
theorem dl_X8_344 : dk_F "DuckWalk" 344 3 0 := ⟨RX3, TX3, 3, _, tyX3, rfl, by decide, by decide, rfl, dl_ws3, tyX3_ok, nmX3, rfl, dk_m1 70 rfl rfl⟩
theorem dl_X3_15 : dk_F "DuckWalk$Plank" 15 3 1 := ⟨RX3, TX3, 3, _, tyX3, rfl, by decide, by decide, rfl, dl_ws3, tyX3_ok, nmX3, rfl, dk_m1 71 rfl rfl⟩
theorem dl_X0_66 : dk_F "DuckWalk$Course" 66 3 1 := ⟨RX3, TX3, 3, _, tyX3, rfl, by decide, by decide, rfl, dl_ws3, tyX3_ok, nmX3, rfl, dk_m1 72 rfl rfl⟩
theorem dl_X4_71 : dk_F "DuckWalk$Reader" 71 3 1 := ⟨RX3, TX3, 3, _, tyX3, rfl, by decide, by decide, rfl, dl_ws3, tyX3_ok, nmX3, rfl, dk_m1 73 rfl rfl⟩
theorem dl_X8_131 : dk_F "DuckWalk" 131 3 1 := ⟨RX3, TX3, 3, _, tyX3, rfl, by decide, by decide, rfl, dl_ws3, tyX3_ok, nmX3, rfl, dk_m1 74 rfl rfl⟩
theorem dl_X3_19 : dk_F "DuckWalk$Plank" 19 3 2 := ⟨RX3, TX3, 3, _, tyX3, rfl, by decide, by decide, rfl, dl_ws3, tyX3_ok, nmX3, rfl, dk_m1 75 rfl rfl⟩
theorem dl_X8_114 : dk_F "DuckWalk" 114 3 2 := ⟨RX3, TX3, 3, _, tyX3, rfl, by decide, by decide, rfl, dl_ws3, tyX3_ok, nmX3, rfl, dk_m1 76 rfl rfl⟩
theorem dl_X0_12 : dk_F "DuckWalk$Course" 12 0 0 := ⟨RX0, TX0, 10, _, tyX0, rfl, by decide, by decide, rfl, dl_ws0, tyX0_ok, nmX0, rfl, dk_m1 84 rfl rfl⟩
theorem dl_X2_27 : dk_F "DuckWalk$Guess" 27 0 0 := ⟨RX0, TX0, 10, _, tyX0, rfl, by decide, by decide, rfl, dl_ws0, tyX0_ok, nmX0, rfl, dk_m1 85 rfl rfl⟩
theorem dl_X7_79 : dk_F "DuckWalk$Trial" 79 0 0 := ⟨RX0, TX0, 10, _, tyX0, rfl, by decide, by decide, rfl, dl_ws0, tyX0_ok, nmX0, rfl, dk_m1 86 rfl rfl⟩
theorem dl_X8_116 : dk_F "DuckWalk" 116 0 0 := ⟨RX0, TX0, 10, _, tyX0, rfl, by decide, by decide, rfl, dl_ws0, tyX0_ok, nmX0, rfl, dk_m1 87 rfl rfl⟩
theorem dl_X0_21 : dk_F "DuckWalk$Course" 21 0 1 := ⟨RX0, TX0, 10, _, tyX0, rfl, by decide, by decide, rfl, dl_ws0, tyX0_ok, nmX0, rfl, dk_m1 88 rfl rfl⟩
theorem dl_X8_124 : dk_F "DuckWalk" 124 0 1 := ⟨RX0, TX0, 10, _, tyX0, rfl, by decide, by decide, rfl, dl_ws0, tyX0_ok, nmX0, rfl, dk_m1 89 rfl rfl⟩
theorem dl_X0_25 : dk_F "DuckWalk$Course" 25 0 2 := ⟨RX0, TX0, 10, _, tyX0, rfl, by decide, by decide, rfl, dl_ws0, tyX0_ok, nmX0, rfl, dk_m1 90 rfl rfl⟩
theorem dl_X8_237 : dk_F "DuckWalk" 237 0 2 := ⟨RX0, TX0, 10, _, tyX0, rfl, by decide, by decide, rfl, dl_ws0, tyX0_ok, nmX0, rfl, dk_m1 91 rfl rfl⟩
theorem dl_X0_29 : dk_F "DuckWalk$Course" 29 0 3 := ⟨RX0, TX0, 10, _, tyX0, rfl, by decide, by decide, rfl, dl_ws0, tyX0_ok, nmX0, rfl, dk_m1 92 rfl rfl⟩
theorem dl_X8_254 : dk_F "DuckWalk" 254 0 3 := ⟨RX0, TX0, 10, _, tyX0, rfl, by decide, by decide, rfl, dl_ws0, tyX0_ok, nmX0, rfl, dk_m1 93 rfl rfl⟩
theorem dl_X0_33 : dk_F "DuckWalk$Course" 33 0 4 := ⟨RX0, TX0, 10, _, tyX0, rfl, by decide, by decide, rfl, dl_ws0, tyX0_ok, nmX0, rfl, dk_m1 94 rfl rfl⟩
theorem dl_X7_56 : dk_F "DuckWalk$Trial" 56 0 4 := ⟨RX0, TX0, 10, _, tyX0, rfl, by decide, by decide, rfl, dl_ws0, tyX0_ok, nmX0, rfl, dk_m1 95 rfl rfl⟩
theorem dl_X2_65 : dk_F "DuckWalk$Guess" 65 0 4 := ⟨RX0, TX0, 10, _, tyX0, rfl, by decide, by decide, rfl, dl_ws0, tyX0_ok, nmX0, rfl, dk_m1 96 rfl rfl⟩
theorem dl_X8_251 : dk_F "DuckWalk" 251 0 4 := ⟨RX0, TX0, 10, _, tyX0, rfl, by decide, by decide, rfl, dl_ws0, tyX0_ok, nmX0, rfl, dk_m1 97 rfl rfl⟩
theorem dl_X0_36 : dk_F "DuckWalk$Course" 36 0 5 := ⟨RX0, TX0, 10, _, tyX0, rfl, by decide, by decide, rfl, dl_ws0, tyX0_ok, nmX0, rfl, dk_m1 98 rfl rfl⟩
theorem dl_X7_59 : dk_F "DuckWalk$Trial" 59 0 5 := ⟨RX0, TX0, 10, _, tyX0, rfl, by decide, by decide, rfl, dl_ws0, tyX0_ok, nmX0, rfl, dk_m1 99 rfl rfl⟩
theorem dl_X0_39 : dk_F "DuckWalk$Course" 39 0 6 := ⟨RX0, TX0, 10, _, tyX0, rfl, by decide, by decide, rfl, dl_ws0, tyX0_ok, nmX0, rfl, dk_m1 100 rfl rfl⟩
theorem dl_X7_96 : dk_F "DuckWalk$Trial" 96 0 6 := ⟨RX0, TX0, 10, _, tyX0, rfl, by decide, by decide, rfl, dl_ws0, tyX0_ok, nmX0, rfl, dk_m1 101 rfl rfl⟩
theorem dl_X8_241 : dk_F "DuckWalk" 241 0 6 := ⟨RX0, TX0, 10, _, tyX0, rfl, by decide, by decide, rfl, dl_ws0, tyX0_ok, nmX0, rfl, dk_m1 102 rfl rfl⟩
theorem dl_X0_42 : dk_F "DuckWalk$Course" 42 0 7 := ⟨RX0, TX0, 10, _, tyX0, rfl, by decide, by decide, rfl, dl_ws0, tyX0_ok, nmX0, rfl, dk_m1 103 rfl rfl⟩
theorem dl_X7_53 : dk_F "DuckWalk$Trial" 53 0 7 := ⟨RX0, TX0, 10, _, tyX0, rfl, by decide, by decide, rfl, dl_ws0, tyX0_ok, nmX0, rfl, dk_m1 104 rfl rfl⟩
theorem dl_X2_62 : dk_F "DuckWalk$Guess" 62 0 7 := ⟨RX0, TX0, 10, _, tyX0, rfl, by decide, by decide, rfl, dl_ws0, tyX0_ok, nmX0, rfl, dk_m1 105 rfl rfl⟩
theorem dl_X8_346 : dk_F "DuckWalk" 346 0 7 := ⟨RX0, TX0, 10, _, tyX0, rfl, by decide, by decide, rfl, dl_ws0, tyX0_ok, nmX0, rfl, dk_m1 106 rfl rfl⟩
theorem dl_X0_45 : dk_F "DuckWalk$Course" 45 0 8 := ⟨RX0, TX0, 10, _, tyX0, rfl, by decide, by decide, rfl, dl_ws0, tyX0_ok, nmX0, rfl, dk_m1 107 rfl rfl⟩
theorem dl_X8_334 : dk_F "DuckWalk" 334 0 8 := ⟨RX0, TX0, 10, _, tyX0, rfl, by decide, by decide, rfl, dl_ws0, tyX0_ok, nmX0, rfl, dk_m1 108 rfl rfl⟩
theorem dl_X0_48 : dk_F "DuckWalk$Course" 48 0 9 := ⟨RX0, TX0, 10, _, tyX0, rfl, by decide, by decide, rfl, dl_ws0, tyX0_ok, nmX0, rfl, dk_m1 109 rfl rfl⟩
theorem dl_X8_331 : dk_F "DuckWalk" 331 0 9 := ⟨RX0, TX0, 10, _, tyX0, rfl, by decide, by decide, rfl, dl_ws0, tyX0_ok, nmX0, rfl, dk_m1 110 rfl rfl⟩
theorem dl_X4_12 : dk_F "DuckWalk$Reader" 12 4 0 := ⟨RX4, TX4, 4, _, tyX4, rfl, by decide, by decide, rfl, dl_ws4, tyX4_ok, nmX4, rfl, dk_m1 143 rfl rfl⟩
theorem dl_X8_204 : dk_F "DuckWalk" 204 4 0 := ⟨RX4, TX4, 4, _, tyX4, rfl, by decide, by decide, rfl, dl_ws4, tyX4_ok, nmX4, rfl, dk_m1 144 rfl rfl⟩
theorem dl_X4_21 : dk_F "DuckWalk$Reader" 21 4 1 := ⟨RX4, TX4, 4, _, tyX4, rfl, by decide, by decide, rfl, dl_ws4, tyX4_ok, nmX4, rfl, dk_m1 145 rfl rfl⟩
theorem dl_X8_213 : dk_F "DuckWalk" 213 4 1 := ⟨RX4, TX4, 4, _, tyX4, rfl, by decide, by decide, rfl, dl_ws4, tyX4_ok, nmX4, rfl, dk_m1 146 rfl rfl⟩
theorem dl_X4_25 : dk_F "DuckWalk$Reader" 25 4 2 := ⟨RX4, TX4, 4, _, tyX4, rfl, by decide, by decide, rfl, dl_ws4, tyX4_ok, nmX4, rfl, dk_m1 147 rfl rfl⟩
theorem dl_X8_217 : dk_F "DuckWalk" 217 4 2 := ⟨RX4, TX4, 4, _, tyX4, rfl, by decide, by decide, rfl, dl_ws4, tyX4_ok, nmX4, rfl, dk_m1 148 rfl rfl⟩
theorem dl_X4_29 : dk_F "DuckWalk$Reader" 29 4 3 := ⟨RX4, TX4, 4, _, tyX4, rfl, by decide, by decide, rfl, dl_ws4, tyX4_ok, nmX4, rfl, dk_m1 149 rfl rfl⟩
theorem dl_X7_12 : dk_F "DuckWalk$Trial" 12 7 0 := ⟨RX7, TX7, 8, _, tyX7, rfl, by decide, by decide, rfl, dl_ws7, tyX7_ok, nmX7, rfl, dk_m1 167 rfl rfl⟩
theorem dl_X8_115 : dk_F "DuckWalk" 115 7 0 := ⟨RX7, TX7, 8, _, tyX7, rfl, by decide, by decide, rfl, dl_ws7, tyX7_ok, nmX7, rfl, dk_m1 168 rfl rfl⟩
theorem dl_X7_18 : dk_F "DuckWalk$Trial" 18 7 1 := ⟨RX7, TX7, 8, _, tyX7, rfl, by decide, by decide, rfl, dl_ws7, tyX7_ok, nmX7, rfl, dk_m1 169 rfl rfl⟩
theorem dl_X8_273 : dk_F "DuckWalk" 273 7 1 := ⟨RX7, TX7, 8, _, tyX7, rfl, by decide, by decide, rfl, dl_ws7, tyX7_ok, nmX7, rfl, dk_m1 170 rfl rfl⟩
theorem dl_X7_22 : dk_F "DuckWalk$Trial" 22 7 2 := ⟨RX7, TX7, 8, _, tyX7, rfl, by decide, by decide, rfl, dl_ws7, tyX7_ok, nmX7, rfl, dk_m1 171 rfl rfl⟩
theorem dl_X8_270 : dk_F "DuckWalk" 270 7 2 := ⟨RX7, TX7, 8, _, tyX7, rfl, by decide, by decide, rfl, dl_ws7, tyX7_ok, nmX7, rfl, dk_m1 172 rfl rfl⟩
theorem dl_X7_25 : dk_F "DuckWalk$Trial" 25 7 3 := ⟨RX7, TX7, 8, _, tyX7, rfl, by decide, by decide, rfl, dl_ws7, tyX7_ok, nmX7, rfl, dk_m1 173 rfl rfl⟩
theorem dl_X8_288 : dk_F "DuckWalk" 288 7 3 := ⟨RX7, TX7, 8, _, tyX7, rfl, by decide, by decide, rfl, dl_ws7, tyX7_ok, nmX7, rfl, dk_m1 174 rfl rfl⟩
theorem dl_X7_28 : dk_F "DuckWalk$Trial" 28 7 4 := ⟨RX7, TX7, 8, _, tyX7, rfl, by decide, by decide, rfl, dl_ws7, tyX7_ok, nmX7, rfl, dk_m1 175 rfl rfl⟩
theorem dl_X7_31 : dk_F "DuckWalk$Trial" 31 7 5 := ⟨RX7, TX7, 8, _, tyX7, rfl, by decide, by decide, rfl, dl_ws7, tyX7_ok, nmX7, rfl, dk_m1 176 rfl rfl⟩
theorem dl_X7_35 : dk_F "DuckWalk$Trial" 35 7 6 := ⟨RX7, TX7, 8, _, tyX7, rfl, by decide, by decide, rfl, dl_ws7, tyX7_ok, nmX7, rfl, dk_m1 177 rfl rfl⟩
theorem dl_X7_39 : dk_F "DuckWalk$Trial" 39 7 7 := ⟨RX7, TX7, 8, _, tyX7, rfl, by decide, by decide, rfl, dl_ws7, tyX7_ok, nmX7, rfl, dk_m1 178 rfl rfl⟩
theorem dl_X2_9 : dk_F "DuckWalk$Guess" 9 2 0 := ⟨RX2, TX2, 4, _, tyX2, rfl, by decide, by decide, rfl, dl_ws2, tyX2_ok, nmX2, rfl, dk_m1 203 rfl rfl⟩
theorem dl_X8_305 : dk_F "DuckWalk" 305 2 0 := ⟨RX2, TX2, 4, _, tyX2, rfl, by decide, by decide, rfl, dl_ws2, tyX2_ok, nmX2, rfl, dk_m1 204 rfl rfl⟩
theorem dl_X2_15 : dk_F "DuckWalk$Guess" 15 2 1 := ⟨RX2, TX2, 4, _, tyX2, rfl, by decide, by decide, rfl, dl_ws2, tyX2_ok, nmX2, rfl, dk_m1 205 rfl rfl⟩
theorem dl_X8_306 : dk_F "DuckWalk" 306 2 1 := ⟨RX2, TX2, 4, _, tyX2, rfl, by decide, by decide, rfl, dl_ws2, tyX2_ok, nmX2, rfl, dk_m1 206 rfl rfl⟩
theorem dl_X2_18 : dk_F "DuckWalk$Guess" 18 2 2 := ⟨RX2, TX2, 4, _, tyX2, rfl, by decide, by decide, rfl, dl_ws2, tyX2_ok, nmX2, rfl, dk_m1 207 rfl rfl⟩
theorem dl_X8_312 : dk_F "DuckWalk" 312 2 2 := ⟨RX2, TX2, 4, _, tyX2, rfl, by decide, by decide, rfl, dl_ws2, tyX2_ok, nmX2, rfl, dk_m1 208 rfl rfl⟩
theorem dl_X2_21 : dk_F "DuckWalk$Guess" 21 2 3 := ⟨RX2, TX2, 4, _, tyX2, rfl, by decide, by decide, rfl, dl_ws2, tyX2_ok, nmX2, rfl, dk_m1 209 rfl rfl⟩
theorem dl_X8_309 : dk_F "DuckWalk" 309 2 3 := ⟨RX2, TX2, 4, _, tyX2, rfl, by decide, by decide, rfl, dl_ws2, tyX2_ok, nmX2, rfl, dk_m1 210 rfl rfl⟩
theorem dl_X5_9 : dk_F "DuckWalk$Row" 9 5 0 := ⟨RX5, TX5, 2, _, tyX5, rfl, by decide, by decide, rfl, dl_ws5, tyX5_ok, nmX5, rfl, dk_m1 225 rfl rfl⟩
theorem dl_X2_47 : dk_F "DuckWalk$Guess" 47 5 0 := ⟨RX5, TX5, 2, _, tyX5, rfl, by decide, by decide, rfl, dl_ws5, tyX5_ok, nmX5, rfl, dk_m1 226 rfl rfl⟩
theorem dl_X8_164 : dk_F "DuckWalk" 164 5 0 := ⟨RX5, TX5, 2, _, tyX5, rfl, by decide, by decide, rfl, dl_ws5, tyX5_ok, nmX5, rfl, dk_m1 227 rfl rfl⟩
theorem dl_X5_15 : dk_F "DuckWalk$Row" 15 5 1 := ⟨RX5, TX5, 2, _, tyX5, rfl, by decide, by decide, rfl, dl_ws5, tyX5_ok, nmX5, rfl, dk_m1 228 rfl rfl⟩
theorem dl_X2_55 : dk_F "DuckWalk$Guess" 55 5 1 := ⟨RX5, TX5, 2, _, tyX5, rfl, by decide, by decide, rfl, dl_ws5, tyX5_ok, nmX5, rfl, dk_m1 229 rfl rfl⟩
theorem dl_X8_170 : dk_F "DuckWalk" 170 5 1 := ⟨RX5, TX5, 2, _, tyX5, rfl, by decide, by decide, rfl, dl_ws5, tyX5_ok, nmX5, rfl, dk_m1 230 rfl rfl⟩
theorem dl_X6_9 : dk_F "DuckWalk$Script" 9 6 0 := ⟨RX6, TX6, 2, _, tyX6, rfl, by decide, by decide, rfl, dl_ws6, tyX6_ok, nmX6, rfl, dk_m2 1 rfl rfl⟩
theorem dl_X8_193 : dk_F "DuckWalk" 193 6 0 := ⟨RX6, TX6, 2, _, tyX6, rfl, by decide, by decide, rfl, dl_ws6, tyX6_ok, nmX6, rfl, dk_m2 2 rfl rfl⟩
theorem dl_X6_15 : dk_F "DuckWalk$Script" 15 6 1 := ⟨RX6, TX6, 2, _, tyX6, rfl, by decide, by decide, rfl, dl_ws6, tyX6_ok, nmX6, rfl, dk_m2 3 rfl rfl⟩
theorem dl_X4_35 : dk_F "DuckWalk$Reader" 35 6 1 := ⟨RX6, TX6, 2, _, tyX6, rfl, by decide, by decide, rfl, dl_ws6, tyX6_ok, nmX6, rfl, dk_m2 4 rfl rfl⟩
theorem dl_X8_11 : dk_F "DuckWalk" 11 8 0 := ⟨RX8, TX8, 15, _, tyX8, rfl, by decide, by decide, rfl, dl_ws8, tyX8_ok, nmX8, rfl, dk_m2 13 rfl rfl⟩
theorem dl_X8_17 : dk_F "DuckWalk" 17 8 1 := ⟨RX8, TX8, 15, _, tyX8, rfl, by decide, by decide, rfl, dl_ws8, tyX8_ok, nmX8, rfl, dk_m2 14 rfl rfl⟩
theorem dl_X8_23 : dk_F "DuckWalk" 23 8 2 := ⟨RX8, TX8, 15, _, tyX8, rfl, by decide, by decide, rfl, dl_ws8, tyX8_ok, nmX8, rfl, dk_m2 15 rfl rfl⟩
theorem dl_X8_29 : dk_F "DuckWalk" 29 8 3 := ⟨RX8, TX8, 15, _, tyX8, rfl, by decide, by decide, rfl, dl_ws8, tyX8_ok, nmX8, rfl, dk_m2 16 rfl rfl⟩
theorem dl_X8_36 : dk_F "DuckWalk" 36 8 4 := ⟨RX8, TX8, 15, _, tyX8, rfl, by decide, by decide, rfl, dl_ws8, tyX8_ok, nmX8, rfl, dk_m2 17 rfl rfl⟩
theorem dl_X8_40 : dk_F "DuckWalk" 40 8 5 := ⟨RX8, TX8, 15, _, tyX8, rfl, by decide, by decide, rfl, dl_ws8, tyX8_ok, nmX8, rfl, dk_m2 18 rfl rfl⟩
theorem dl_X8_47 : dk_F "DuckWalk" 47 8 6 := ⟨RX8, TX8, 15, _, tyX8, rfl, by decide, by decide, rfl, dl_ws8, tyX8_ok, nmX8, rfl, dk_m2 19 rfl rfl⟩
theorem dl_X8_54 : dk_F "DuckWalk" 54 8 7 := ⟨RX8, TX8, 15, _, tyX8, rfl, by decide, by decide, rfl, dl_ws8, tyX8_ok, nmX8, rfl, dk_m2 20 rfl rfl⟩
theorem dl_X8_58 : dk_F "DuckWalk" 58 8 8 := ⟨RX8, TX8, 15, _, tyX8, rfl, by decide, by decide, rfl, dl_ws8, tyX8_ok, nmX8, rfl, dk_m2 21 rfl rfl⟩
theorem dl_X8_64 : dk_F "DuckWalk" 64 8 9 := ⟨RX8, TX8, 15, _, tyX8, rfl, by decide, by decide, rfl, dl_ws8, tyX8_ok, nmX8, rfl, dk_m2 22 rfl rfl⟩
theorem dl_X8_68 : dk_F "DuckWalk" 68 8 10 := ⟨RX8, TX8, 15, _, tyX8, rfl, by decide, by decide, rfl, dl_ws8, tyX8_ok, nmX8, rfl, dk_m2 23 rfl rfl⟩
theorem dl_X8_72 : dk_F "DuckWalk" 72 8 11 := ⟨RX8, TX8, 15, _, tyX8, rfl, by decide, by decide, rfl, dl_ws8, tyX8_ok, nmX8, rfl, dk_m2 24 rfl rfl⟩
theorem dl_X8_76 : dk_F "DuckWalk" 76 8 12 := ⟨RX8, TX8, 15, _, tyX8, rfl, by decide, by decide, rfl, dl_ws8, tyX8_ok, nmX8, rfl, dk_m2 25 rfl rfl⟩
theorem dl_X8_79 : dk_F "DuckWalk" 79 8 13 := ⟨RX8, TX8, 15, _, tyX8, rfl, by decide, by decide, rfl, dl_ws8, tyX8_ok, nmX8, rfl, dk_m2 26 rfl rfl⟩
theorem dl_X8_83 : dk_F "DuckWalk" 83 8 14 := ⟨RX8, TX8, 15, _, tyX8, rfl, by decide, by decide, rfl, dl_ws8, tyX8_ok, nmX8, rfl, dk_m2 27 rfl rfl⟩
theorem dl_X9_76 : dk_F "DuckWalkModel" 76 9 0 := ⟨RX9, TX9, 41, _, tyX9, rfl, by decide, by decide, rfl, dl_ws9, tyX9_ok, nmX9, rfl, dk_m4 127 rfl rfl⟩
theorem dl_X9_7 : dk_F "DuckWalkModel" 7 9 1 := ⟨RX9, TX9, 41, _, tyX9, rfl, by decide, by decide, rfl, dl_ws9, tyX9_ok, nmX9, rfl, dk_m4 128 rfl rfl⟩
theorem dl_X9_84 : dk_F "DuckWalkModel" 84 9 2 := ⟨RX9, TX9, 41, _, tyX9, rfl, by decide, by decide, rfl, dl_ws9, tyX9_ok, nmX9, rfl, dk_m4 129 rfl rfl⟩
theorem dl_X9_87 : dk_F "DuckWalkModel" 87 9 3 := ⟨RX9, TX9, 41, _, tyX9, rfl, by decide, by decide, rfl, dl_ws9, tyX9_ok, nmX9, rfl, dk_m4 130 rfl rfl⟩
theorem dl_X9_72 : dk_F "DuckWalkModel" 72 9 4 := ⟨RX9, TX9, 41, _, tyX9, rfl, by decide, by decide, rfl, dl_ws9, tyX9_ok, nmX9, rfl, dk_m4 131 rfl rfl⟩
theorem dl_X9_13 : dk_F "DuckWalkModel" 13 9 5 := ⟨RX9, TX9, 41, _, tyX9, rfl, by decide, by decide, rfl, dl_ws9, tyX9_ok, nmX9, rfl, dk_m4 132 rfl rfl⟩
theorem dl_X9_16 : dk_F "DuckWalkModel" 16 9 6 := ⟨RX9, TX9, 41, _, tyX9, rfl, by decide, by decide, rfl, dl_ws9, tyX9_ok, nmX9, rfl, dk_m4 133 rfl rfl⟩
theorem dl_X9_19 : dk_F "DuckWalkModel" 19 9 7 := ⟨RX9, TX9, 41, _, tyX9, rfl, by decide, by decide, rfl, dl_ws9, tyX9_ok, nmX9, rfl, dk_m4 134 rfl rfl⟩
theorem dl_X9_22 : dk_F "DuckWalkModel" 22 9 8 := ⟨RX9, TX9, 41, _, tyX9, rfl, by decide, by decide, rfl, dl_ws9, tyX9_ok, nmX9, rfl, dk_m4 135 rfl rfl⟩
theorem dl_X9_25 : dk_F "DuckWalkModel" 25 9 9 := ⟨RX9, TX9, 41, _, tyX9, rfl, by decide, by decide, rfl, dl_ws9, tyX9_ok, nmX9, rfl, dk_m4 136 rfl rfl⟩
theorem dl_X9_29 : dk_F "DuckWalkModel" 29 9 10 := ⟨RX9, TX9, 41, _, tyX9, rfl, by decide, by decide, rfl, dl_ws9, tyX9_ok, nmX9, rfl, dk_m4 137 rfl rfl⟩
theorem dl_X9_33 : dk_F "DuckWalkModel" 33 9 11 := ⟨RX9, TX9, 41, _, tyX9, rfl, by decide, by decide, rfl, dl_ws9, tyX9_ok, nmX9, rfl, dk_m4 138 rfl rfl⟩
theorem dl_X9_36 : dk_F "DuckWalkModel" 36 9 12 := ⟨RX9, TX9, 41, _, tyX9, rfl, by decide, by decide, rfl, dl_ws9, tyX9_ok, nmX9, rfl, dk_m4 139 rfl rfl⟩
theorem dl_X9_39 : dk_F "DuckWalkModel" 39 9 13 := ⟨RX9, TX9, 41, _, tyX9, rfl, by decide, by decide, rfl, dl_ws9, tyX9_ok, nmX9, rfl, dk_m4 140 rfl rfl⟩
theorem dl_X9_108 : dk_F "DuckWalkModel" 108 9 14 := ⟨RX9, TX9, 41, _, tyX9, rfl, by decide, by decide, rfl, dl_ws9, tyX9_ok, nmX9, rfl, dk_m4 141 rfl rfl⟩
theorem dl_X9_114 : dk_F "DuckWalkModel" 114 9 15 := ⟨RX9, TX9, 41, _, tyX9, rfl, by decide, by decide, rfl, dl_ws9, tyX9_ok, nmX9, rfl, dk_m4 142 rfl rfl⟩
theorem dl_X9_127 : dk_F "DuckWalkModel" 127 9 16 := ⟨RX9, TX9, 41, _, tyX9, rfl, by decide, by decide, rfl, dl_ws9, tyX9_ok, nmX9, rfl, dk_m4 143 rfl rfl⟩
theorem dl_X9_42 : dk_F "DuckWalkModel" 42 9 17 := ⟨RX9, TX9, 41, _, tyX9, rfl, by decide, by decide, rfl, dl_ws9, tyX9_ok, nmX9, rfl, dk_m4 144 rfl rfl⟩
theorem dl_X9_45 : dk_F "DuckWalkModel" 45 9 18 := ⟨RX9, TX9, 41, _, tyX9, rfl, by decide, by decide, rfl, dl_ws9, tyX9_ok, nmX9, rfl, dk_m4 145 rfl rfl⟩
theorem dl_X9_48 : dk_F "DuckWalkModel" 48 9 19 := ⟨RX9, TX9, 41, _, tyX9, rfl, by decide, by decide, rfl, dl_ws9, tyX9_ok, nmX9, rfl, dk_m4 146 rfl rfl⟩
theorem dl_X9_145 : dk_F "DuckWalkModel" 145 9 20 := ⟨RX9, TX9, 41, _, tyX9, rfl, by decide, by decide, rfl, dl_ws9, tyX9_ok, nmX9, rfl, dk_m4 147 rfl rfl⟩
theorem dl_X9_148 : dk_F "DuckWalkModel" 148 9 21 := ⟨RX9, TX9, 41, _, tyX9, rfl, by decide, by decide, rfl, dl_ws9, tyX9_ok, nmX9, rfl, dk_m4 148 rfl rfl⟩
theorem dl_X9_51 : dk_F "DuckWalkModel" 51 9 22 := ⟨RX9, TX9, 41, _, tyX9, rfl, by decide, by decide, rfl, dl_ws9, tyX9_ok, nmX9, rfl, dk_m4 149 rfl rfl⟩
theorem dl_X9_151 : dk_F "DuckWalkModel" 151 9 23 := ⟨RX9, TX9, 41, _, tyX9, rfl, by decide, by decide, rfl, dl_ws9, tyX9_ok, nmX9, rfl, dk_m4 150 rfl rfl⟩
theorem dl_X9_176 : dk_F "DuckWalkModel" 176 9 24 := ⟨RX9, TX9, 41, _, tyX9, rfl, by decide, by decide, rfl, dl_ws9, tyX9_ok, nmX9, rfl, dk_m4 151 rfl rfl⟩
theorem dl_X9_154 : dk_F "DuckWalkModel" 154 9 25 := ⟨RX9, TX9, 41, _, tyX9, rfl, by decide, by decide, rfl, dl_ws9, tyX9_ok, nmX9, rfl, dk_m4 152 rfl rfl⟩
theorem dl_X9_157 : dk_F "DuckWalkModel" 157 9 26 := ⟨RX9, TX9, 41, _, tyX9, rfl, by decide, by decide, rfl, dl_ws9, tyX9_ok, nmX9, rfl, dk_m4 153 rfl rfl⟩
theorem dl_X9_160 : dk_F "DuckWalkModel" 160 9 27 := ⟨RX9, TX9, 41, _, tyX9, rfl, by decide, by decide, rfl, dl_ws9, tyX9_ok, nmX9, rfl, dk_m4 154 rfl rfl⟩
theorem dl_X9_163 : dk_F "DuckWalkModel" 163 9 28 := ⟨RX9, TX9, 41, _, tyX9, rfl, by decide, by decide, rfl, dl_ws9, tyX9_ok, nmX9, rfl, dk_m4 155 rfl rfl⟩
theorem dl_X9_166 : dk_F "DuckWalkModel" 166 9 29 := ⟨RX9, TX9, 41, _, tyX9, rfl, by decide, by decide, rfl, dl_ws9, tyX9_ok, nmX9, rfl, dk_m4 156 rfl rfl⟩
theorem dl_X9_54 : dk_F "DuckWalkModel" 54 9 30 := ⟨RX9, TX9, 41, _, tyX9, rfl, by decide, by decide, rfl, dl_ws9, tyX9_ok, nmX9, rfl, dk_m4 157 rfl rfl⟩
theorem dl_X9_57 : dk_F "DuckWalkModel" 57 9 31 := ⟨RX9, TX9, 41, _, tyX9, rfl, by decide, by decide, rfl, dl_ws9, tyX9_ok, nmX9, rfl, dk_m4 158 rfl rfl⟩
theorem dl_X9_60 : dk_F "DuckWalkModel" 60 9 32 := ⟨RX9, TX9, 41, _, tyX9, rfl, by decide, by decide, rfl, dl_ws9, tyX9_ok, nmX9, rfl, dk_m4 159 rfl rfl⟩
theorem dl_X9_63 : dk_F "DuckWalkModel" 63 9 33 := ⟨RX9, TX9, 41, _, tyX9, rfl, by decide, by decide, rfl, dl_ws9, tyX9_ok, nmX9, rfl, dk_m4 160 rfl rfl⟩
theorem dl_X9_209 : dk_F "DuckWalkModel" 209 9 34 := ⟨RX9, TX9, 41, _, tyX9, rfl, by decide, by decide, rfl, dl_ws9, tyX9_ok, nmX9, rfl, dk_m4 161 rfl rfl⟩
theorem dl_X9_203 : dk_F "DuckWalkModel" 203 9 35 := ⟨RX9, TX9, 41, _, tyX9, rfl, by decide, by decide, rfl, dl_ws9, tyX9_ok, nmX9, rfl, dk_m4 162 rfl rfl⟩
theorem dl_X9_212 : dk_F "DuckWalkModel" 212 9 36 := ⟨RX9, TX9, 41, _, tyX9, rfl, by decide, by decide, rfl, dl_ws9, tyX9_ok, nmX9, rfl, dk_m4 163 rfl rfl⟩
theorem dl_X9_215 : dk_F "DuckWalkModel" 215 9 37 := ⟨RX9, TX9, 41, _, tyX9, rfl, by decide, by decide, rfl, dl_ws9, tyX9_ok, nmX9, rfl, dk_m4 164 rfl rfl⟩
theorem dl_X9_66 : dk_F "DuckWalkModel" 66 9 38 := ⟨RX9, TX9, 41, _, tyX9, rfl, by decide, by decide, rfl, dl_ws9, tyX9_ok, nmX9, rfl, dk_m4 165 rfl rfl⟩
theorem dl_X9_69 : dk_F "DuckWalkModel" 69 9 39 := ⟨RX9, TX9, 41, _, tyX9, rfl, by decide, by decide, rfl, dl_ws9, tyX9_ok, nmX9, rfl, dk_m4 166 rfl rfl⟩
theorem dl_X9_267 : dk_F "DuckWalkModel" 267 9 40 := ⟨RX9, TX9, 41, _, tyX9, rfl, by decide, by decide, rfl, dl_ws9, tyX9_ok, nmX9, rfl, dk_m4 167 rfl rfl⟩
theorem dp_0_2 : dk_Fp 0 2 .boolean := fun C T N h => by cases h; exact ⟨rfl, by decide +kernel⟩
theorem dp_0_3 : dk_Fp 0 3 .int := fun C T N h => by cases h; exact ⟨rfl, by decide +kernel⟩
theorem dp_0_4 : dk_Fp 0 4 .int := fun C T N h => by cases h; exact ⟨rfl, by decide +kernel⟩
theorem dp_0_5 : dk_Fp 0 5 .int := fun C T N h => by cases h; exact ⟨rfl, by decide +kernel⟩
theorem dp_0_6 : dk_Fp 0 6 .int := fun C T N h => by cases h; exact ⟨rfl, by decide +kernel⟩
theorem dp_0_7 : dk_Fp 0 7 .int := fun C T N h => by cases h; exact ⟨rfl, by decide +kernel⟩
theorem dp_0_8 : dk_Fp 0 8 .int := fun C T N h => by cases h; exact ⟨rfl, by decide +kernel⟩
theorem dp_0_9 : dk_Fp 0 9 .int := fun C T N h => by cases h; exact ⟨rfl, by decide +kernel⟩
theorem dp_1_1 : dk_Fp 1 1 .int := fun C T N h => by cases h; exact ⟨rfl, by decide +kernel⟩
theorem dp_1_2 : dk_Fp 1 2 .boolean := fun C T N h => by cases h; exact ⟨rfl, by decide +kernel⟩
theorem dp_2_0 : dk_Fp 2 0 .int := fun C T N h => by cases h; exact ⟨rfl, by decide +kernel⟩
theorem dp_2_1 : dk_Fp 2 1 .int := fun C T N h => by cases h; exact ⟨rfl, by decide +kernel⟩
theorem dp_2_2 : dk_Fp 2 2 .int := fun C T N h => by cases h; exact ⟨rfl, by decide +kernel⟩
theorem dp_2_3 : dk_Fp 2 3 .int := fun C T N h => by cases h; exact ⟨rfl, by decide +kernel⟩
theorem dp_3_1 : dk_Fp 3 1 .int := fun C T N h => by cases h; exact ⟨rfl, by decide +kernel⟩
theorem dp_3_2 : dk_Fp 3 2 .boolean := fun C T N h => by cases h; exact ⟨rfl, by decide +kernel⟩
theorem dp_4_2 : dk_Fp 4 2 .int := fun C T N h => by cases h; exact ⟨rfl, by decide +kernel⟩
theorem dp_4_3 : dk_Fp 4 3 .int := fun C T N h => by cases h; exact ⟨rfl, by decide +kernel⟩
theorem dp_5_1 : dk_Fp 5 1 .int := fun C T N h => by cases h; exact ⟨rfl, by decide +kernel⟩
theorem dp_6_1 : dk_Fp 6 1 .int := fun C T N h => by cases h; exact ⟨rfl, by decide +kernel⟩
theorem dp_7_1 : dk_Fp 7 1 .int := fun C T N h => by cases h; exact ⟨rfl, by decide +kernel⟩
theorem dp_7_2 : dk_Fp 7 2 .int := fun C T N h => by cases h; exact ⟨rfl, by decide +kernel⟩
theorem dp_7_3 : dk_Fp 7 3 .int := fun C T N h => by cases h; exact ⟨rfl, by decide +kernel⟩
theorem dp_7_4 : dk_Fp 7 4 .int := fun C T N h => by cases h; exact ⟨rfl, by decide +kernel⟩
theorem dp_7_7 : dk_Fp 7 7 .long := fun C T N h => by cases h; exact ⟨rfl, by decide +kernel⟩
theorem dp_8_11 : dk_Fp 8 11 .int := fun C T N h => by cases h; exact ⟨rfl, by decide +kernel⟩
theorem dp_8_12 : dk_Fp 8 12 .int := fun C T N h => by cases h; exact ⟨rfl, by decide +kernel⟩
theorem dp_8_13 : dk_Fp 8 13 .long := fun C T N h => by cases h; exact ⟨rfl, by decide +kernel⟩
theorem dp_8_14 : dk_Fp 8 14 .long := fun C T N h => by cases h; exact ⟨rfl, by decide +kernel⟩
theorem dp_9_0 : dk_Fp 9 0 .int := fun C T N h => by cases h; exact ⟨rfl, by decide +kernel⟩
theorem dp_9_2 : dk_Fp 9 2 .int := fun C T N h => by cases h; exact ⟨rfl, by decide +kernel⟩
theorem dp_9_3 : dk_Fp 9 3 .long := fun C T N h => by cases h; exact ⟨rfl, by decide +kernel⟩
theorem dp_9_4 : dk_Fp 9 4 .long := fun C T N h => by cases h; exact ⟨rfl, by decide +kernel⟩
theorem dp_9_14 : dk_Fp 9 14 .int := fun C T N h => by cases h; exact ⟨rfl, by decide +kernel⟩
theorem dp_9_15 : dk_Fp 9 15 .int := fun C T N h => by cases h; exact ⟨rfl, by decide +kernel⟩
theorem dp_9_16 : dk_Fp 9 16 .int := fun C T N h => by cases h; exact ⟨rfl, by decide +kernel⟩
theorem dp_9_20 : dk_Fp 9 20 .int := fun C T N h => by cases h; exact ⟨rfl, by decide +kernel⟩
theorem dp_9_21 : dk_Fp 9 21 .int := fun C T N h => by cases h; exact ⟨rfl, by decide +kernel⟩
theorem dp_9_23 : dk_Fp 9 23 .int := fun C T N h => by cases h; exact ⟨rfl, by decide +kernel⟩
theorem dp_9_24 : dk_Fp 9 24 .int := fun C T N h => by cases h; exact ⟨rfl, by decide +kernel⟩
theorem dp_9_25 : dk_Fp 9 25 .int := fun C T N h => by cases h; exact ⟨rfl, by decide +kernel⟩
theorem dp_9_26 : dk_Fp 9 26 .int := fun C T N h => by cases h; exact ⟨rfl, by decide +kernel⟩
theorem dp_9_27 : dk_Fp 9 27 .int := fun C T N h => by cases h; exact ⟨rfl, by decide +kernel⟩
theorem dp_9_28 : dk_Fp 9 28 .int := fun C T N h => by cases h; exact ⟨rfl, by decide +kernel⟩
theorem dp_9_29 : dk_Fp 9 29 .int := fun C T N h => by cases h; exact ⟨rfl, by decide +kernel⟩
theorem dp_9_34 : dk_Fp 9 34 .int := fun C T N h => by cases h; exact ⟨rfl, by decide +kernel⟩
theorem dp_9_35 : dk_Fp 9 35 .int := fun C T N h => by cases h; exact ⟨rfl, by decide +kernel⟩
theorem dp_9_36 : dk_Fp 9 36 .int := fun C T N h => by cases h; exact ⟨rfl, by decide +kernel⟩
theorem dp_9_37 : dk_Fp 9 37 .int := fun C T N h => by cases h; exact ⟨rfl, by decide +kernel⟩
theorem dp_9_40 : dk_Fp 9 40 .long := fun C T N h => by cases h; exact ⟨rfl, by decide +kernel⟩
theorem dw_L_13 : dk_WV "DuckWalkLaw" 13 yX8_row cX8_row 3 (some .int) 2 := ⟨dk_m2 59 rfl rfl, dk_m2 60 rfl rfl, dk_m2 61 rfl rfl, dk_m1 1 rfl rfl, dk_m2 62 rfl rfl, by decide, by decide, by decide +kernel⟩
theorem dw_X8_147 : dk_WS "DuckWalk" 147 yX8_noRow cX8_noRow 1 (some .boolean) 1 := ⟨dk_m2 63 rfl rfl, dk_m2 64 rfl rfl, dk_m1 1 rfl rfl, dk_m2 65 rfl rfl, by decide, by decide, by decide +kernel⟩
theorem dw_X8_90 : dk_WS "DuckWalk" 90 yX8_isOutside cX8_isOutside 3 (some .boolean) 3 := ⟨dk_m2 66 rfl rfl, dk_m2 67 rfl rfl, dk_m1 1 rfl rfl, dk_m2 68 rfl rfl, by decide, by decide, by decide +kernel⟩
theorem dw_X8_150 : dk_WV "DuckWalk" 150 yX8_found cX8_found 2 (some .int) 1 := ⟨dk_m2 69 rfl rfl, dk_m2 71 rfl rfl, dk_mp 0 rfl rfl, dk_m1 1 rfl rfl, dk_m2 72 rfl rfl, by decide, by decide, by decide +kernel⟩
theorem dw_X8_153 : dk_WV "DuckWalk" 153 yX5_renew cX5_renew 2 none 1 := ⟨dk_m2 73 rfl rfl, dk_m2 74 rfl rfl, dk_m2 75 rfl rfl, dk_m1 8 rfl rfl, dk_m2 76 rfl rfl, by decide, by decide, by decide +kernel⟩
theorem dw_X5_19 : dk_WS "DuckWalk$Row" 19 yJ7_fill_53178 cJ7_fill_53178 4 none 2 := ⟨dk_m2 77 rfl rfl, dk_m2 78 rfl rfl, dk_m1 11 rfl rfl, dk_m2 79 rfl rfl, by decide, by decide, by decide +kernel⟩
theorem dw_L_18 : dk_WV "DuckWalkLaw" 18 yX8_lay cX8_lay 6 (some .int) 3 := ⟨dk_m2 80 rfl rfl, dk_m2 81 rfl rfl, dk_m2 82 rfl rfl, dk_m1 1 rfl rfl, dk_m2 83 rfl rfl, by decide, by decide, by decide +kernel⟩
theorem dw_X8_157 : dk_WV "DuckWalk" 157 yX5_isMissing cX5_isMissing 1 (some .boolean) 0 := ⟨dk_m2 84 rfl rfl, dk_m2 85 rfl rfl, dk_m2 86 rfl rfl, dk_m1 8 rfl rfl, dk_m2 87 rfl rfl, by decide, by decide, by decide +kernel⟩
theorem dw_X8_161 : dk_WV "DuckWalk" 161 yX5_has cX5_has 2 (some .boolean) 1 := ⟨dk_m2 88 rfl rfl, dk_m2 89 rfl rfl, dk_m2 90 rfl rfl, dk_m1 8 rfl rfl, dk_m2 91 rfl rfl, by decide, by decide, by decide +kernel⟩
theorem dw_X8_167 : dk_WV "DuckWalk" 167 yX8_tell cX8_tell 2 (some .int) 1 := ⟨dk_m2 92 rfl rfl, dk_m2 94 rfl rfl, dk_mp 1 rfl rfl, dk_m1 1 rfl rfl, dk_m2 95 rfl rfl, by decide, by decide, by decide +kernel⟩
theorem dw_L_23 : dk_WV "DuckWalkLaw" 23 yX8_at cX8_at 4 (some .int) 2 := ⟨dk_m2 96 rfl rfl, dk_m2 97 rfl rfl, dk_m2 98 rfl rfl, dk_m1 1 rfl rfl, dk_m2 99 rfl rfl, by decide, by decide, by decide +kernel⟩
theorem dw_L_27 : dk_WV "DuckWalkLaw" 27 yX8_tear cX8_tear 2 (some .int) 1 := ⟨dk_m2 100 rfl rfl, dk_m2 101 rfl rfl, dk_m2 102 rfl rfl, dk_m1 1 rfl rfl, dk_m2 103 rfl rfl, by decide, by decide, by decide +kernel⟩
theorem dw_L_32 : dk_WV "DuckWalkLaw" 32 yX8_copy cX8_copy 6 (some .int) 5 := ⟨dk_m2 104 rfl rfl, dk_m2 105 rfl rfl, dk_m2 106 rfl rfl, dk_m1 1 rfl rfl, dk_m2 107 rfl rfl, by decide, by decide, by decide +kernel⟩
theorem dw_X8_173 : dk_WV "DuckWalk" 173 yX5_hasSpan cX5_hasSpan 3 (some .boolean) 2 := ⟨dk_m2 108 rfl rfl, dk_m2 109 rfl rfl, dk_m2 110 rfl rfl, dk_m1 8 rfl rfl, dk_m2 111 rfl rfl, by decide, by decide, by decide +kernel⟩
theorem dw_L_37 : dk_WV "DuckWalkLaw" 37 yX8_mean cX8_mean 3 (some .int) 1 := ⟨dk_m2 115 rfl rfl, dk_m2 116 rfl rfl, dk_m2 117 rfl rfl, dk_m1 1 rfl rfl, dk_m2 118 rfl rfl, by decide, by decide, by decide +kernel⟩
theorem dw_X8_183 : dk_WV "DuckWalk" 183 yX5_sum cX5_sum 4 (some .long) 0 := ⟨dk_m2 119 rfl rfl, dk_m2 120 rfl rfl, dk_m2 121 rfl rfl, dk_m1 8 rfl rfl, dk_m2 122 rfl rfl, by decide, by decide, by decide +kernel⟩
theorem dw_L_41 : dk_WV "DuckWalkLaw" 41 yX8_text cX8_text 3 (some .int) 2 := ⟨dk_m2 123 rfl rfl, dk_m2 124 rfl rfl, dk_m2 125 rfl rfl, dk_m1 1 rfl rfl, dk_m2 126 rfl rfl, by decide, by decide, by decide +kernel⟩
theorem dw_X8_187 : dk_WS "DuckWalk" 187 yX8_noText cX8_noText 1 (some .boolean) 1 := ⟨dk_m2 127 rfl rfl, dk_m2 128 rfl rfl, dk_m1 1 rfl rfl, dk_m2 129 rfl rfl, by decide, by decide, by decide +kernel⟩
theorem dw_X8_190 : dk_WV "DuckWalk" 190 yX6_renew cX6_renew 2 none 1 := ⟨dk_m2 130 rfl rfl, dk_m2 131 rfl rfl, dk_m2 132 rfl rfl, dk_m1 9 rfl rfl, dk_m2 133 rfl rfl, by decide, by decide, by decide +kernel⟩
theorem dw_X6_19 : dk_WS "DuckWalk$Script" 19 yJ7_fill_031fb cJ7_fill_031fb 4 none 2 := ⟨dk_m2 134 rfl rfl, dk_m2 135 rfl rfl, dk_m1 11 rfl rfl, dk_m2 136 rfl rfl, by decide, by decide, by decide +kernel⟩
theorem dw_L_45 : dk_WV "DuckWalkLaw" 45 yX8_put cX8_put 6 (some .int) 3 := ⟨dk_m2 137 rfl rfl, dk_m2 138 rfl rfl, dk_m2 139 rfl rfl, dk_m1 1 rfl rfl, dk_m2 140 rfl rfl, by decide, by decide, by decide +kernel⟩
theorem dw_X8_191 : dk_WV "DuckWalk" 191 yX6_isMissing cX6_isMissing 1 (some .boolean) 0 := ⟨dk_m2 141 rfl rfl, dk_m2 142 rfl rfl, dk_m2 143 rfl rfl, dk_m1 9 rfl rfl, dk_m2 144 rfl rfl, by decide, by decide, by decide +kernel⟩
theorem dw_X8_192 : dk_WV "DuckWalk" 192 yX6_has cX6_has 2 (some .boolean) 1 := ⟨dk_m2 145 rfl rfl, dk_m2 146 rfl rfl, dk_m2 147 rfl rfl, dk_m1 9 rfl rfl, dk_m2 148 rfl rfl, by decide, by decide, by decide +kernel⟩
theorem dw_L_49 : dk_WV "DuckWalkLaw" 49 yX8_fault cX8_fault 3 (some .int) 2 := ⟨dk_m2 149 rfl rfl, dk_m2 150 rfl rfl, dk_m2 151 rfl rfl, dk_m1 1 rfl rfl, dk_m2 152 rfl rfl, by decide, by decide, by decide +kernel⟩
theorem dw_X8_197 : dk_WV "DuckWalk" 197 yX4_readPlank cX4_readPlank 5 (some .int) 1 := ⟨dk_m2 153 rfl rfl, dk_m2 154 rfl rfl, dk_m2 155 rfl rfl, dk_m1 5 rfl rfl, dk_m2 156 rfl rfl, by decide, by decide, by decide +kernel⟩
theorem dw_X4_48 : dk_WV "DuckWalk$Reader" 48 yX3_clear cX3_clear 1 none 0 := ⟨dk_m2 157 rfl rfl, dk_m2 158 rfl rfl, dk_m2 159 rfl rfl, dk_m1 4 rfl rfl, dk_m2 160 rfl rfl, by decide, by decide, by decide +kernel⟩
theorem dw_X3_23 : dk_WS "DuckWalk$Plank" 23 yJ7_fill_53178 cJ7_fill_53178 4 none 2 := ⟨dk_m2 161 rfl rfl, dk_m2 78 rfl rfl, dk_m1 11 rfl rfl, dk_m2 79 rfl rfl, by decide, by decide, by decide +kernel⟩
theorem dw_X4_40 : dk_WV "DuckWalk$Reader" 40 yX6_sign cX6_sign 2 (some .int) 1 := ⟨dk_m2 162 rfl rfl, dk_m2 163 rfl rfl, dk_m2 164 rfl rfl, dk_m1 9 rfl rfl, dk_m2 165 rfl rfl, by decide, by decide, by decide +kernel⟩
theorem dw_X6_25 : dk_WV "DuckWalk$Script" 25 yX6_has cX6_has 2 (some .boolean) 1 := ⟨dk_m2 166 rfl rfl, dk_m2 146 rfl rfl, dk_m2 147 rfl rfl, dk_m1 9 rfl rfl, dk_m2 148 rfl rfl, by decide, by decide, by decide +kernel⟩
theorem dw_X4_49 : dk_WV "DuckWalk$Reader" 49 yX4_readRub cX4_readRub 4 (some .int) 2 := ⟨dk_m2 167 rfl rfl, dk_m2 169 rfl rfl, dk_mp 2 rfl rfl, dk_m1 5 rfl rfl, dk_m2 170 rfl rfl, by decide, by decide, by decide +kernel⟩
theorem dw_X4_68 : dk_WV "DuckWalk$Reader" 68 yX6_figure cX6_figure 3 (some .int) 1 := ⟨dk_m2 171 rfl rfl, dk_m2 172 rfl rfl, dk_m2 173 rfl rfl, dk_m1 9 rfl rfl, dk_m2 174 rfl rfl, by decide, by decide, by decide +kernel⟩
theorem dw_X6_29 : dk_WV "DuckWalk$Script" 29 yX6_sign cX6_sign 2 (some .int) 1 := ⟨dk_m2 175 rfl rfl, dk_m2 163 rfl rfl, dk_m2 164 rfl rfl, dk_m1 9 rfl rfl, dk_m2 165 rfl rfl, by decide, by decide, by decide +kernel⟩
theorem dw_X6_33 : dk_WN "DuckWalk$Script" 33 yX8_isOutside cX8_isOutside 3 (some .boolean) 3 := ⟨⟨_, List.mem_of_getElem? (i := 2) rfl⟩, dk_m2 67 rfl rfl, dk_m1 1 rfl rfl, dk_m2 68 rfl rfl, by decide, by decide, by decide +kernel⟩
theorem dw_X4_58 : dk_WV "DuckWalk$Reader" 58 yX4_faultAt cX4_faultAt 2 (some .int) 1 := ⟨dk_m2 177 rfl rfl, dk_m2 179 rfl rfl, dk_mp 3 rfl rfl, dk_m1 5 rfl rfl, dk_m2 180 rfl rfl, by decide, by decide, by decide +kernel⟩
theorem dw_X4_52 : dk_WV "DuckWalk$Reader" 52 yX4_readBump cX4_readBump 6 (some .int) 2 := ⟨dk_m2 181 rfl rfl, dk_m2 183 rfl rfl, dk_mp 4 rfl rfl, dk_m1 5 rfl rfl, dk_m2 184 rfl rfl, by decide, by decide, by decide +kernel⟩
theorem dw_X8_201 : dk_WV "DuckWalk" 201 yX4_readDuck cX4_readDuck 4 (some .int) 1 := ⟨dk_m2 185 rfl rfl, dk_m2 186 rfl rfl, dk_m2 187 rfl rfl, dk_m1 5 rfl rfl, dk_m2 188 rfl rfl, by decide, by decide, by decide +kernel⟩
theorem dw_X4_32 : dk_WV "DuckWalk$Reader" 32 yX1_clear cX1_clear 1 none 0 := ⟨dk_m2 189 rfl rfl, dk_m2 190 rfl rfl, dk_m2 191 rfl rfl, dk_m1 3 rfl rfl, dk_m2 192 rfl rfl, by decide, by decide, by decide +kernel⟩
theorem dw_X1_23 : dk_WS "DuckWalk$Duck" 23 yJ7_fill_fda19 cJ7_fill_fda19 5 none 4 := ⟨dk_m2 193 rfl rfl, dk_m2 194 rfl rfl, dk_m1 11 rfl rfl, dk_m2 195 rfl rfl, by decide, by decide, by decide +kernel⟩
theorem dw_J7_13 : dk_WS "java/util/Arrays" 13 yJ7_rangeCheck_23922 cJ7_rangeCheck_23922 3 none 3 := ⟨dk_m2 196 rfl rfl, dk_m2 197 rfl rfl, dk_m1 11 rfl rfl, dk_m2 198 rfl rfl, by decide, by decide, by decide +kernel⟩
theorem dw_X4_44 : dk_WV "DuckWalk$Reader" 44 yX4_readSize cX4_readSize 6 (some .int) 2 := ⟨dk_m2 199 rfl rfl, dk_m2 201 rfl rfl, dk_mp 5 rfl rfl, dk_m1 5 rfl rfl, dk_m2 202 rfl rfl, by decide, by decide, by decide +kernel⟩
theorem dw_X4_55 : dk_WS "DuckWalk$Reader" 55 yX4_sizeOf cX4_sizeOf 1 (some .int) 1 := ⟨dk_m2 203 rfl rfl, dk_m2 204 rfl rfl, dk_m1 5 rfl rfl, dk_m2 205 rfl rfl, by decide, by decide, by decide +kernel⟩
theorem dw_L_54 : dk_WV "DuckWalkLaw" 54 yX8_walker cX8_walker 3 (some .int) 2 := ⟨dk_m2 206 rfl rfl, dk_m2 207 rfl rfl, dk_m2 208 rfl rfl, dk_m1 1 rfl rfl, dk_m2 209 rfl rfl, by decide, by decide, by decide +kernel⟩
theorem dw_X8_94 : dk_WS "DuckWalk" 94 yX8_noWalker cX8_noWalker 1 (some .boolean) 1 := ⟨dk_m2 210 rfl rfl, dk_m2 211 rfl rfl, dk_m1 1 rfl rfl, dk_m2 212 rfl rfl, by decide, by decide, by decide +kernel⟩
theorem dw_X8_120 : dk_WV "DuckWalk" 120 yX1_take cX1_take 2 none 1 := ⟨dk_m2 213 rfl rfl, dk_m2 214 rfl rfl, dk_m2 215 rfl rfl, dk_m1 3 rfl rfl, dk_m2 216 rfl rfl, by decide, by decide, by decide +kernel⟩
theorem dw_X8_208 : dk_WS "DuckWalk" 208 yJ6_bitCount_0f7a4 cJ6_bitCount_0f7a4 1 (some .int) 1 := ⟨dk_m2 218 rfl rfl, dk_m2 219 rfl rfl, dk_m1 13 rfl rfl, dk_m2 220 rfl rfl, by decide, by decide, by decide +kernel⟩
theorem dw_L_58 : dk_WV "DuckWalkLaw" 58 yX8_board cX8_board 3 (some .int) 2 := ⟨dk_m2 224 rfl rfl, dk_m2 225 rfl rfl, dk_m2 226 rfl rfl, dk_m1 1 rfl rfl, dk_m2 227 rfl rfl, by decide, by decide, by decide +kernel⟩
theorem dw_X8_98 : dk_WS "DuckWalk" 98 yX8_noBoard cX8_noBoard 1 (some .boolean) 1 := ⟨dk_m2 228 rfl rfl, dk_m2 229 rfl rfl, dk_m1 1 rfl rfl, dk_m2 230 rfl rfl, by decide, by decide, by decide +kernel⟩
theorem dw_X8_214 : dk_WV "DuckWalk" 214 yX3_take cX3_take 2 none 1 := ⟨dk_m2 231 rfl rfl, dk_m2 232 rfl rfl, dk_m2 233 rfl rfl, dk_m1 4 rfl rfl, dk_m2 234 rfl rfl, by decide, by decide, by decide +kernel⟩
theorem dw_L_62 : dk_WV "DuckWalkLaw" 62 yX8_about cX8_about 3 (some .int) 2 := ⟨dk_m2 236 rfl rfl, dk_m2 237 rfl rfl, dk_m2 238 rfl rfl, dk_m1 1 rfl rfl, dk_m2 239 rfl rfl, by decide, by decide, by decide +kernel⟩
theorem dw_X8_220 : dk_WV "DuckWalk" 220 yX1_value cX1_value 2 (some .int) 1 := ⟨dk_m3 0 rfl rfl, dk_m3 1 rfl rfl, dk_m3 2 rfl rfl, dk_m1 3 rfl rfl, dk_m3 3 rfl rfl, by decide, by decide, by decide +kernel⟩
theorem dw_X1_39 : dk_WN "DuckWalk$Duck" 39 yX8_isOutside cX8_isOutside 3 (some .boolean) 3 := ⟨⟨_, List.mem_of_getElem? (i := 0) rfl⟩, dk_m2 67 rfl rfl, dk_m1 1 rfl rfl, dk_m2 68 rfl rfl, by decide, by decide, by decide +kernel⟩
theorem dw_L_66 : dk_WV "DuckWalkLaw" 66 yX8_rub cX8_rub 3 (some .int) 2 := ⟨dk_m3 5 rfl rfl, dk_m3 6 rfl rfl, dk_m3 7 rfl rfl, dk_m1 1 rfl rfl, dk_m3 8 rfl rfl, by decide, by decide, by decide +kernel⟩
theorem dw_X8_223 : dk_WV "DuckWalk" 223 yX3_bumpsOf cX3_bumpsOf 2 (some .int) 1 := ⟨dk_m3 9 rfl rfl, dk_m3 10 rfl rfl, dk_m3 11 rfl rfl, dk_m1 4 rfl rfl, dk_m3 12 rfl rfl, by decide, by decide, by decide +kernel⟩
theorem dw_X3_35 : dk_WN "DuckWalk$Plank" 35 yX8_isOutside cX8_isOutside 3 (some .boolean) 3 := ⟨⟨_, List.mem_of_getElem? (i := 1) rfl⟩, dk_m2 67 rfl rfl, dk_m1 1 rfl rfl, dk_m2 68 rfl rfl, by decide, by decide, by decide +kernel⟩
theorem dw_L_70 : dk_WV "DuckWalkLaw" 70 yX8_wax cX8_wax 5 (some .int) 3 := ⟨dk_m3 14 rfl rfl, dk_m3 15 rfl rfl, dk_m3 16 rfl rfl, dk_m1 1 rfl rfl, dk_m3 17 rfl rfl, by decide, by decide, by decide +kernel⟩
theorem dw_L_74 : dk_WV "DuckWalkLaw" 74 yX8_walk cX8_walk 6 (some .int) 5 := ⟨dk_m3 18 rfl rfl, dk_m3 19 rfl rfl, dk_m3 20 rfl rfl, dk_m1 1 rfl rfl, dk_m3 21 rfl rfl, by decide, by decide, by decide +kernel⟩
theorem dw_X8_229 : dk_WS "DuckWalk" 229 yX8_noGoing cX8_noGoing 4 (some .boolean) 4 := ⟨dk_m3 22 rfl rfl, dk_m3 23 rfl rfl, dk_m1 1 rfl rfl, dk_m3 24 rfl rfl, by decide, by decide, by decide +kernel⟩
theorem dw_X8_104 : dk_WS "DuckWalk" 104 yX8_noPair cX8_noPair 3 (some .boolean) 3 := ⟨dk_m3 25 rfl rfl, dk_m3 26 rfl rfl, dk_m1 1 rfl rfl, dk_m3 27 rfl rfl, by decide, by decide, by decide +kernel⟩
theorem dw_X8_101 : dk_WS "DuckWalk" 101 yX8_noPace cX8_noPace 1 (some .boolean) 1 := ⟨dk_m3 28 rfl rfl, dk_m3 29 rfl rfl, dk_m1 1 rfl rfl, dk_m3 30 rfl rfl, by decide, by decide, by decide +kernel⟩
theorem dw_X8_107 : dk_WS "DuckWalk" 107 yX8_noSlope cX8_noSlope 1 (some .boolean) 1 := ⟨dk_m3 31 rfl rfl, dk_m3 32 rfl rfl, dk_m1 1 rfl rfl, dk_m3 33 rfl rfl, by decide, by decide, by decide +kernel⟩
theorem dw_X8_233 : dk_WV "DuckWalk" 233 yX0_begin cX0_begin 4 none 3 := ⟨dk_m3 34 rfl rfl, dk_m3 35 rfl rfl, dk_m3 36 rfl rfl, dk_m1 2 rfl rfl, dk_m3 37 rfl rfl, by decide, by decide, by decide +kernel⟩
theorem dw_X8_238 : dk_WV "DuckWalk" 238 yX1_gain cX1_gain 3 (some .int) 2 := ⟨dk_m3 38 rfl rfl, dk_m3 39 rfl rfl, dk_m3 40 rfl rfl, dk_m1 3 rfl rfl, dk_m3 41 rfl rfl, by decide, by decide, by decide +kernel⟩
theorem dw_L_78 : dk_WV "DuckWalkLaw" 78 yX8_go cX8_go 2 (some .int) 1 := ⟨dk_m3 42 rfl rfl, dk_m3 43 rfl rfl, dk_m3 44 rfl rfl, dk_m1 1 rfl rfl, dk_m3 45 rfl rfl, by decide, by decide, by decide +kernel⟩
theorem dw_X8_244 : dk_WV "DuckWalk" 244 yX0_strideOn cX0_strideOn 3 (some .int) 1 := ⟨dk_m3 46 rfl rfl, dk_m3 47 rfl rfl, dk_m3 48 rfl rfl, dk_m1 2 rfl rfl, dk_m3 49 rfl rfl, by decide, by decide, by decide +kernel⟩
theorem dw_X0_80 : dk_WV "DuckWalk$Course" 80 yX0_stride cX0_stride 3 (some .boolean) 0 := ⟨dk_m3 50 rfl rfl, dk_m3 51 rfl rfl, dk_m3 52 rfl rfl, dk_m1 2 rfl rfl, dk_m3 53 rfl rfl, by decide, by decide, by decide +kernel⟩
theorem dw_X0_58 : dk_WV "DuckWalk$Course" 58 yX1_damp cX1_damp 1 (some .int) 0 := ⟨dk_m3 54 rfl rfl, dk_m3 55 rfl rfl, dk_m3 56 rfl rfl, dk_m1 3 rfl rfl, dk_m3 57 rfl rfl, by decide, by decide, by decide +kernel⟩
theorem dw_X1_43 : dk_WS "DuckWalk$Duck" 43 yJ9_max_7cf53 cJ9_max_7cf53 2 (some .int) 2 := ⟨dk_m3 58 rfl rfl, dk_m3 59 rfl rfl, dk_m1 14 rfl rfl, dk_m3 60 rfl rfl, by decide, by decide, by decide +kernel⟩
theorem dw_X0_62 : dk_WV "DuckWalk$Course" 62 yX1_gain cX1_gain 3 (some .int) 2 := ⟨dk_m3 61 rfl rfl, dk_m3 39 rfl rfl, dk_m3 40 rfl rfl, dk_m1 3 rfl rfl, dk_m3 41 rfl rfl, by decide, by decide, by decide +kernel⟩
theorem dw_X0_69 : dk_WV "DuckWalk$Course" 69 yX3_bumpsOf cX3_bumpsOf 2 (some .int) 1 := ⟨dk_m3 62 rfl rfl, dk_m3 10 rfl rfl, dk_m3 11 rfl rfl, dk_m1 4 rfl rfl, dk_m3 12 rfl rfl, by decide, by decide, by decide +kernel⟩
theorem dw_X0_73 : dk_WV "DuckWalk$Course" 73 yX1_limit cX1_limit 1 (some .int) 0 := ⟨dk_m3 63 rfl rfl, dk_m3 64 rfl rfl, dk_m3 65 rfl rfl, dk_m1 3 rfl rfl, dk_m3 66 rfl rfl, by decide, by decide, by decide +kernel⟩
theorem dw_L_82 : dk_WV "DuckWalkLaw" 82 yX8_told cX8_told 2 (some .int) 1 := ⟨dk_m3 67 rfl rfl, dk_m3 68 rfl rfl, dk_m3 69 rfl rfl, dk_m1 1 rfl rfl, dk_m3 70 rfl rfl, by decide, by decide, by decide +kernel⟩
theorem dw_X8_247 : dk_WV "DuckWalk" 247 yX0_value cX0_value 2 (some .int) 1 := ⟨dk_m3 71 rfl rfl, dk_m3 72 rfl rfl, dk_m3 73 rfl rfl, dk_m1 2 rfl rfl, dk_m3 74 rfl rfl, by decide, by decide, by decide +kernel⟩
theorem dw_L_86 : dk_WV "DuckWalkLaw" 86 yX8_tocks cX8_tocks 4 (some .int) 2 := ⟨dk_m3 75 rfl rfl, dk_m3 76 rfl rfl, dk_m3 77 rfl rfl, dk_m1 1 rfl rfl, dk_m3 78 rfl rfl, by decide, by decide, by decide +kernel⟩
theorem dw_X8_248 : dk_WV "DuckWalk" 248 yX0_stride cX0_stride 3 (some .boolean) 0 := ⟨dk_m3 79 rfl rfl, dk_m3 51 rfl rfl, dk_m3 52 rfl rfl, dk_m1 2 rfl rfl, dk_m3 53 rfl rfl, by decide, by decide, by decide +kernel⟩
theorem dw_L_90 : dk_WV "DuckWalkLaw" 90 yX8_tilt cX8_tilt 3 (some .int) 1 := ⟨dk_m3 80 rfl rfl, dk_m3 81 rfl rfl, dk_m3 82 rfl rfl, dk_m1 1 rfl rfl, dk_m3 83 rfl rfl, by decide, by decide, by decide +kernel⟩
theorem dw_L_94 : dk_WV "DuckWalkLaw" 94 yX8_keep cX8_keep 2 (some .int) 1 := ⟨dk_m3 84 rfl rfl, dk_m3 85 rfl rfl, dk_m3 86 rfl rfl, dk_m1 1 rfl rfl, dk_m3 87 rfl rfl, by decide, by decide, by decide +kernel⟩
theorem dw_X8_257 : dk_WV "DuckWalk" 257 yX0_take cX0_take 2 none 1 := ⟨dk_m3 88 rfl rfl, dk_m3 89 rfl rfl, dk_m3 90 rfl rfl, dk_m1 2 rfl rfl, dk_m3 91 rfl rfl, by decide, by decide, by decide +kernel⟩
theorem dw_X0_51 : dk_WV "DuckWalk$Course" 51 yX1_take cX1_take 2 none 1 := ⟨dk_m3 92 rfl rfl, dk_m2 214 rfl rfl, dk_m2 215 rfl rfl, dk_m1 3 rfl rfl, dk_m2 216 rfl rfl, by decide, by decide, by decide +kernel⟩
theorem dw_X0_55 : dk_WV "DuckWalk$Course" 55 yX3_take cX3_take 2 none 1 := ⟨dk_m3 93 rfl rfl, dk_m2 232 rfl rfl, dk_m2 233 rfl rfl, dk_m1 4 rfl rfl, dk_m2 234 rfl rfl, by decide, by decide, by decide +kernel⟩
theorem dw_L_98 : dk_WV "DuckWalkLaw" 98 yX8_on cX8_on 2 (some .int) 1 := ⟨dk_m3 94 rfl rfl, dk_m3 95 rfl rfl, dk_m3 96 rfl rfl, dk_m1 1 rfl rfl, dk_m3 97 rfl rfl, by decide, by decide, by decide +kernel⟩
theorem dw_L_102 : dk_WV "DuckWalkLaw" 102 yX8_turns cX8_turns 2 (some .int) 0 := ⟨dk_m3 98 rfl rfl, dk_m3 99 rfl rfl, dk_m3 100 rfl rfl, dk_m1 1 rfl rfl, dk_m3 101 rfl rfl, by decide, by decide, by decide +kernel⟩
theorem dw_X8_134 : dk_WS "DuckWalk" 134 yX8_divisor cX8_divisor 6 (some .int) 2 := ⟨dk_m3 102 rfl rfl, dk_m3 103 rfl rfl, dk_m1 1 rfl rfl, dk_m3 104 rfl rfl, by decide, by decide, by decide +kernel⟩
theorem dw_X8_143 : dk_WS "DuckWalk" 143 yJ9_abs_0f7a4 cJ9_abs_0f7a4 1 (some .int) 1 := ⟨dk_m3 105 rfl rfl, dk_m3 106 rfl rfl, dk_m1 14 rfl rfl, dk_m3 107 rfl rfl, by decide, by decide, by decide +kernel⟩
theorem dw_X8_138 : dk_WS "DuckWalk" 138 yJ9_max_7cf53 cJ9_max_7cf53 2 (some .int) 2 := ⟨dk_m3 108 rfl rfl, dk_m3 59 rfl rfl, dk_m1 14 rfl rfl, dk_m3 60 rfl rfl, by decide, by decide, by decide +kernel⟩
theorem dw_X8_260 : dk_WS "DuckWalk" 260 yJ9_floorMod_7cf53 cJ9_floorMod_7cf53 3 (some .int) 2 := ⟨dk_m3 109 rfl rfl, dk_m3 110 rfl rfl, dk_m1 14 rfl rfl, dk_m3 111 rfl rfl, by decide, by decide, by decide +kernel⟩
theorem dw_L_107 : dk_WV "DuckWalkLaw" 107 yX8_going cX8_going 5 (some .int) 4 := ⟨dk_m3 112 rfl rfl, dk_m3 113 rfl rfl, dk_m3 114 rfl rfl, dk_m1 1 rfl rfl, dk_m3 115 rfl rfl, by decide, by decide, by decide +kernel⟩
theorem dw_X8_263 : dk_WV "DuckWalk" 263 yX8_isReady cX8_isReady 3 (some .boolean) 2 := ⟨dk_m3 116 rfl rfl, dk_m3 118 rfl rfl, dk_mp 6 rfl rfl, dk_m1 1 rfl rfl, dk_m3 119 rfl rfl, by decide, by decide, by decide +kernel⟩
theorem dw_X8_128 : dk_WV "DuckWalk" 128 yX3_clear cX3_clear 1 none 0 := ⟨dk_m3 120 rfl rfl, dk_m2 158 rfl rfl, dk_m2 159 rfl rfl, dk_m1 4 rfl rfl, dk_m2 160 rfl rfl, by decide, by decide, by decide +kernel⟩
theorem dw_X8_266 : dk_WV "DuckWalk" 266 yX7_find cX7_find 5 none 2 := ⟨dk_m3 121 rfl rfl, dk_m3 122 rfl rfl, dk_m3 123 rfl rfl, dk_m1 6 rfl rfl, dk_m3 124 rfl rfl, by decide, by decide, by decide +kernel⟩
theorem dw_X7_43 : dk_WV "DuckWalk$Trial" 43 yX0_begin cX0_begin 4 none 3 := ⟨dk_m3 125 rfl rfl, dk_m3 35 rfl rfl, dk_m3 36 rfl rfl, dk_m1 2 rfl rfl, dk_m3 37 rfl rfl, by decide, by decide, by decide +kernel⟩
theorem dw_X7_49 : dk_WV "DuckWalk$Trial" 49 yX0_stride cX0_stride 3 (some .boolean) 0 := ⟨dk_m3 127 rfl rfl, dk_m3 51 rfl rfl, dk_m3 52 rfl rfl, dk_m1 2 rfl rfl, dk_m3 53 rfl rfl, by decide, by decide, by decide +kernel⟩
theorem dw_X7_62 : dk_WN "DuckWalk$Trial" 62 yX8_isOutside cX8_isOutside 3 (some .boolean) 3 := ⟨⟨_, List.mem_of_getElem? (i := 3) rfl⟩, dk_m2 67 rfl rfl, dk_m1 1 rfl rfl, dk_m2 68 rfl rfl, by decide, by decide, by decide +kernel⟩
theorem dw_X7_66 : dk_WV "DuckWalk$Trial" 66 yX7_closeTrip cX7_closeTrip 4 none 2 := ⟨dk_m3 129 rfl rfl, dk_m3 131 rfl rfl, dk_mp 7 rfl rfl, dk_m1 6 rfl rfl, dk_m3 132 rfl rfl, by decide, by decide, by decide +kernel⟩
theorem dw_X7_70 : dk_WS "DuckWalk$Trial" 70 yJ9_min_7cf53 cJ9_min_7cf53 2 (some .int) 2 := ⟨dk_m3 133 rfl rfl, dk_m3 134 rfl rfl, dk_m1 14 rfl rfl, dk_m3 135 rfl rfl, by decide, by decide, by decide +kernel⟩
theorem dw_X7_76 : dk_WS "DuckWalk$Trial" 76 yJ9_max_7cf53 cJ9_max_7cf53 2 (some .int) 2 := ⟨dk_m3 136 rfl rfl, dk_m3 59 rfl rfl, dk_m1 14 rfl rfl, dk_m3 60 rfl rfl, by decide, by decide, by decide +kernel⟩
theorem dw_X7_83 : dk_WV "DuckWalk$Trial" 83 yX1_limit cX1_limit 1 (some .int) 0 := ⟨dk_m3 137 rfl rfl, dk_m3 64 rfl rfl, dk_m3 65 rfl rfl, dk_m1 3 rfl rfl, dk_m3 66 rfl rfl, by decide, by decide, by decide +kernel⟩
theorem dw_L_112 : dk_WV "DuckWalkLaw" 112 yX8_mark cX8_mark 6 (some .int) 5 := ⟨dk_m3 138 rfl rfl, dk_m3 139 rfl rfl, dk_m3 140 rfl rfl, dk_m1 1 rfl rfl, dk_m3 141 rfl rfl, by decide, by decide, by decide +kernel⟩
theorem dw_X8_276 : dk_WV "DuckWalk" 276 yX7_isOf cX7_isOf 2 (some .boolean) 1 := ⟨dk_m3 142 rfl rfl, dk_m3 143 rfl rfl, dk_m3 144 rfl rfl, dk_m1 6 rfl rfl, dk_m3 145 rfl rfl, by decide, by decide, by decide +kernel⟩
theorem dw_X8_279 : dk_WV "DuckWalk" 279 yX7_unlikePaces cX7_unlikePaces 8 (some .int) 2 := ⟨dk_m3 146 rfl rfl, dk_m3 147 rfl rfl, dk_m3 148 rfl rfl, dk_m1 6 rfl rfl, dk_m3 149 rfl rfl, by decide, by decide, by decide +kernel⟩
theorem dw_X7_99 : dk_WS "DuckWalk$Trial" 99 yJ13_bitCount_95d88 cJ13_bitCount_95d88 2 (some .int) 1 := ⟨dk_m3 150 rfl rfl, dk_m3 151 rfl rfl, dk_m1 15 rfl rfl, dk_m3 152 rfl rfl, by decide, by decide, by decide +kernel⟩
theorem dw_X8_282 : dk_WV "DuckWalk" 282 yX7_tells cX7_tells 2 (some .int) 1 := ⟨dk_m3 156 rfl rfl, dk_m3 157 rfl rfl, dk_m3 158 rfl rfl, dk_m1 6 rfl rfl, dk_m3 159 rfl rfl, by decide, by decide, by decide +kernel⟩
theorem dw_L_116 : dk_WV "DuckWalkLaw" 116 yX8_lines cX8_lines 8 (some .int) 4 := ⟨dk_m3 160 rfl rfl, dk_m3 161 rfl rfl, dk_m3 162 rfl rfl, dk_m1 1 rfl rfl, dk_m3 163 rfl rfl, by decide, by decide, by decide +kernel⟩
theorem dw_L_120 : dk_WV "DuckWalkLaw" 120 yX8_begins cX8_begins 7 (some .int) 3 := ⟨dk_m3 164 rfl rfl, dk_m3 165 rfl rfl, dk_m3 166 rfl rfl, dk_m1 1 rfl rfl, dk_m3 167 rfl rfl, by decide, by decide, by decide +kernel⟩
theorem dw_X8_285 : dk_WV "DuckWalk" 285 yX7_walksWell cX7_walksWell 3 (some .boolean) 2 := ⟨dk_m3 168 rfl rfl, dk_m3 169 rfl rfl, dk_m3 170 rfl rfl, dk_m1 6 rfl rfl, dk_m3 171 rfl rfl, by decide, by decide, by decide +kernel⟩
theorem dw_X7_89 : dk_WV "DuckWalk$Trial" 89 yX7_find cX7_find 5 none 2 := ⟨dk_m3 172 rfl rfl, dk_m3 122 rfl rfl, dk_m3 123 rfl rfl, dk_m1 6 rfl rfl, dk_m3 124 rfl rfl, by decide, by decide, by decide +kernel⟩
theorem dw_X7_92 : dk_WV "DuckWalk$Trial" 92 yX7_isOf cX7_isOf 2 (some .boolean) 1 := ⟨dk_m3 173 rfl rfl, dk_m3 143 rfl rfl, dk_m3 144 rfl rfl, dk_m1 6 rfl rfl, dk_m3 145 rfl rfl, by decide, by decide, by decide +kernel⟩
theorem dw_L_124 : dk_WV "DuckWalkLaw" 124 yX8_mends cX8_mends 9 (some .int) 5 := ⟨dk_m3 174 rfl rfl, dk_m3 175 rfl rfl, dk_m3 176 rfl rfl, dk_m1 1 rfl rfl, dk_m3 177 rfl rfl, by decide, by decide, by decide +kernel⟩
theorem dw_L_128 : dk_WV "DuckWalkLaw" 128 yX8_wide cX8_wide 9 (some .int) 3 := ⟨dk_m3 178 rfl rfl, dk_m3 179 rfl rfl, dk_m3 180 rfl rfl, dk_m1 1 rfl rfl, dk_m3 181 rfl rfl, by decide, by decide, by decide +kernel⟩
theorem dw_X8_291 : dk_WV "DuckWalk" 291 yX7_span cX7_span 4 (some .int) 1 := ⟨dk_m3 182 rfl rfl, dk_m3 183 rfl rfl, dk_m3 184 rfl rfl, dk_m1 6 rfl rfl, dk_m3 185 rfl rfl, by decide, by decide, by decide +kernel⟩
theorem dw_X7_105 : dk_WV "DuckWalk$Trial" 105 yX7_walksWell cX7_walksWell 3 (some .boolean) 2 := ⟨dk_m3 186 rfl rfl, dk_m3 169 rfl rfl, dk_m3 170 rfl rfl, dk_m1 6 rfl rfl, dk_m3 171 rfl rfl, by decide, by decide, by decide +kernel⟩
theorem dw_L_132 : dk_WV "DuckWalkLaw" 132 yX8_mend cX8_mend 7 (some .int) 4 := ⟨dk_m3 187 rfl rfl, dk_m3 188 rfl rfl, dk_m3 189 rfl rfl, dk_m1 1 rfl rfl, dk_m3 190 rfl rfl, by decide, by decide, by decide +kernel⟩
theorem dw_X8_294 : dk_WS "DuckWalk" 294 yJ9_min_7cf53 cJ9_min_7cf53 2 (some .int) 2 := ⟨dk_m3 191 rfl rfl, dk_m3 134 rfl rfl, dk_m1 14 rfl rfl, dk_m3 135 rfl rfl, by decide, by decide, by decide +kernel⟩
theorem dw_L_136 : dk_WV "DuckWalkLaw" 136 yX8_limp cX8_limp 5 (some .int) 3 := ⟨dk_m3 192 rfl rfl, dk_m3 193 rfl rfl, dk_m3 194 rfl rfl, dk_m1 1 rfl rfl, dk_m3 195 rfl rfl, by decide, by decide, by decide +kernel⟩
theorem dw_X8_297 : dk_WV "DuckWalk" 297 yX8_refusalOfTocks cX8_refusalOfTocks 5 (some .int) 3 := ⟨dk_m3 196 rfl rfl, dk_m3 198 rfl rfl, dk_mp 8 rfl rfl, dk_m1 1 rfl rfl, dk_m3 199 rfl rfl, by decide, by decide, by decide +kernel⟩
theorem dw_X8_301 : dk_WV "DuckWalk" 301 yX2_search cX2_search 5 none 2 := ⟨dk_m3 200 rfl rfl, dk_m3 201 rfl rfl, dk_m3 202 rfl rfl, dk_m1 7 rfl rfl, dk_m3 203 rfl rfl, by decide, by decide, by decide +kernel⟩
theorem dw_X2_39 : dk_WV "DuckWalk$Guess" 39 yX2_offOf cX2_offOf 7 (some .int) 3 := ⟨dk_m3 205 rfl rfl, dk_m3 207 rfl rfl, dk_mp 9 rfl rfl, dk_m1 7 rfl rfl, dk_m3 208 rfl rfl, by decide, by decide, by decide +kernel⟩
theorem dw_X2_52 : dk_WV "DuckWalk$Guess" 52 yX0_begin cX0_begin 4 none 3 := ⟨dk_m3 209 rfl rfl, dk_m3 35 rfl rfl, dk_m3 36 rfl rfl, dk_m1 2 rfl rfl, dk_m3 37 rfl rfl, by decide, by decide, by decide +kernel⟩
theorem dw_X2_58 : dk_WV "DuckWalk$Guess" 58 yX0_stride cX0_stride 3 (some .boolean) 0 := ⟨dk_m3 210 rfl rfl, dk_m3 51 rfl rfl, dk_m3 52 rfl rfl, dk_m1 2 rfl rfl, dk_m3 53 rfl rfl, by decide, by decide, by decide +kernel⟩
theorem dw_X2_68 : dk_WS "DuckWalk$Guess" 68 yJ9_abs_0f7a4 cJ9_abs_0f7a4 1 (some .int) 1 := ⟨dk_m3 211 rfl rfl, dk_m3 106 rfl rfl, dk_m1 14 rfl rfl, dk_m3 107 rfl rfl, by decide, by decide, by decide +kernel⟩
theorem dw_X2_43 : dk_WV "DuckWalk$Guess" 43 yX2_weigh cX2_weigh 4 none 3 := ⟨dk_m3 212 rfl rfl, dk_m3 214 rfl rfl, dk_mp 10 rfl rfl, dk_m1 7 rfl rfl, dk_m3 215 rfl rfl, by decide, by decide, by decide +kernel⟩
theorem dw_L_140 : dk_WV "DuckWalkLaw" 140 yX8_odds cX8_odds 5 (some .int) 3 := ⟨dk_m3 216 rfl rfl, dk_m3 217 rfl rfl, dk_m3 218 rfl rfl, dk_m1 1 rfl rfl, dk_m3 219 rfl rfl, by decide, by decide, by decide +kernel⟩
theorem dw_X8_315 : dk_WV "DuckWalk" 315 yX8_tellFraction cX8_tellFraction 4 none 2 := ⟨dk_m3 220 rfl rfl, dk_m3 222 rfl rfl, dk_mp 11 rfl rfl, dk_m1 1 rfl rfl, dk_m3 223 rfl rfl, by decide, by decide, by decide +kernel⟩
theorem dw_L_144 : dk_WV "DuckWalkLaw" 144 yX8_part cX8_part 7 (some .int) 4 := ⟨dk_m3 224 rfl rfl, dk_m3 225 rfl rfl, dk_m3 226 rfl rfl, dk_m1 1 rfl rfl, dk_m3 227 rfl rfl, by decide, by decide, by decide +kernel⟩
theorem dw_L_148 : dk_WV "DuckWalkLaw" 148 yX8_made cX8_made 12 (some .int) 4 := ⟨dk_m3 228 rfl rfl, dk_m3 229 rfl rfl, dk_m3 230 rfl rfl, dk_m1 1 rfl rfl, dk_m3 231 rfl rfl, by decide, by decide, by decide +kernel⟩
theorem dw_X8_318 : dk_WV "DuckWalk" 318 yX1_shape cX1_shape 4 none 3 := ⟨dk_m3 232 rfl rfl, dk_m3 233 rfl rfl, dk_m3 234 rfl rfl, dk_m1 3 rfl rfl, dk_m3 235 rfl rfl, by decide, by decide, by decide +kernel⟩
theorem dw_L_152 : dk_WV "DuckWalkLaw" 152 yX8_would cX8_would 9 (some .int) 4 := ⟨dk_m3 236 rfl rfl, dk_m3 237 rfl rfl, dk_m3 238 rfl rfl, dk_m1 1 rfl rfl, dk_m3 239 rfl rfl, by decide, by decide, by decide +kernel⟩
theorem dw_X8_321 : dk_WV "DuckWalk" 321 yX1_ways cX1_ways 3 (some .int) 0 := ⟨dk_m4 0 rfl rfl, dk_m4 1 rfl rfl, dk_m4 2 rfl rfl, dk_m1 3 rfl rfl, dk_m4 3 rfl rfl, by decide, by decide, by decide +kernel⟩
theorem dw_X1_35 : dk_WV "DuckWalk$Duck" 35 yX1_isUntold cX1_isUntold 2 (some .boolean) 1 := ⟨dk_m4 4 rfl rfl, dk_m4 5 rfl rfl, dk_m4 6 rfl rfl, dk_m1 3 rfl rfl, dk_m4 7 rfl rfl, by decide, by decide, by decide +kernel⟩
theorem dw_X8_325 : dk_WV "DuckWalk" 325 yX1_tellUntold cX1_tellUntold 4 none 1 := ⟨dk_m4 8 rfl rfl, dk_m4 9 rfl rfl, dk_m4 10 rfl rfl, dk_m1 3 rfl rfl, dk_m4 11 rfl rfl, by decide, by decide, by decide +kernel⟩
theorem dw_X8_328 : dk_WV "DuckWalk" 328 yX1_asNumber cX1_asNumber 1 (some .int) 0 := ⟨dk_m4 12 rfl rfl, dk_m4 13 rfl rfl, dk_m4 14 rfl rfl, dk_m1 3 rfl rfl, dk_m4 15 rfl rfl, by decide, by decide, by decide +kernel⟩
theorem dw_L_156 : dk_WV "DuckWalkLaw" 156 yX8_yard cX8_yard 8 (some .int) 5 := ⟨dk_m4 16 rfl rfl, dk_m4 17 rfl rfl, dk_m4 18 rfl rfl, dk_m1 1 rfl rfl, dk_m4 19 rfl rfl, by decide, by decide, by decide +kernel⟩
theorem dw_L_160 : dk_WV "DuckWalkLaw" 160 yX8_push cX8_push 5 (some .int) 3 := ⟨dk_m4 20 rfl rfl, dk_m4 21 rfl rfl, dk_m4 22 rfl rfl, dk_m1 1 rfl rfl, dk_m4 23 rfl rfl, by decide, by decide, by decide +kernel⟩
theorem dw_X8_337 : dk_WV "DuckWalk" 337 yX8_leastPush cX8_leastPush 7 (some .int) 3 := ⟨dk_m4 24 rfl rfl, dk_m4 26 rfl rfl, dk_mp 12 rfl rfl, dk_m1 1 rfl rfl, dk_m4 27 rfl rfl, by decide, by decide, by decide +kernel⟩
theorem dw_L_164 : dk_WV "DuckWalkLaw" 164 yX8_bears cX8_bears 7 (some .int) 5 := ⟨dk_m4 28 rfl rfl, dk_m4 29 rfl rfl, dk_m4 30 rfl rfl, dk_m1 1 rfl rfl, dk_m4 31 rfl rfl, by decide, by decide, by decide +kernel⟩
theorem dw_X8_341 : dk_WV "DuckWalk" 341 yX8_bearsBump cX8_bearsBump 6 (some .boolean) 4 := ⟨dk_m4 32 rfl rfl, dk_m4 34 rfl rfl, dk_mp 13 rfl rfl, dk_m1 1 rfl rfl, dk_m4 35 rfl rfl, by decide, by decide, by decide +kernel⟩
theorem dw_L_168 : dk_WV "DuckWalkLaw" 168 yX8_meets cX8_meets 7 (some .int) 5 := ⟨dk_m4 36 rfl rfl, dk_m4 37 rfl rfl, dk_m4 38 rfl rfl, dk_m1 1 rfl rfl, dk_m4 39 rfl rfl, by decide, by decide, by decide +kernel⟩
theorem dw_L_172 : dk_WV "DuckWalkLaw" 172 yX8_asked cX8_asked 1 (some .int) 0 := ⟨dk_m4 40 rfl rfl, dk_m4 41 rfl rfl, dk_m4 42 rfl rfl, dk_m1 1 rfl rfl, dk_m4 43 rfl rfl, by decide, by decide, by decide +kernel⟩
theorem dw_L_176 : dk_WV "DuckWalkLaw" 176 yX8_upper cX8_upper 1 (some .long) 0 := ⟨dk_m4 44 rfl rfl, dk_m4 45 rfl rfl, dk_m4 46 rfl rfl, dk_m1 1 rfl rfl, dk_m4 47 rfl rfl, by decide, by decide, by decide +kernel⟩
theorem dw_L_181 : dk_WV "DuckWalkLaw" 181 yX8_lower cX8_lower 1 (some .long) 0 := ⟨dk_m4 48 rfl rfl, dk_m4 49 rfl rfl, dk_m4 50 rfl rfl, dk_m1 1 rfl rfl, dk_m4 51 rfl rfl, by decide, by decide, by decide +kernel⟩
theorem dw_L_185 : dk_WV "DuckWalkLaw" 185 yX8_count cX8_count 2 (some .int) 1 := ⟨dk_m4 52 rfl rfl, dk_m4 53 rfl rfl, dk_m4 54 rfl rfl, dk_m1 1 rfl rfl, dk_m4 55 rfl rfl, by decide, by decide, by decide +kernel⟩
theorem dw_X8_349 : dk_WV "DuckWalk" 349 yX8_countOf cX8_countOf 2 (some .int) 1 := ⟨dk_m4 56 rfl rfl, dk_m4 58 rfl rfl, dk_mp 14 rfl rfl, dk_m1 1 rfl rfl, dk_m4 59 rfl rfl, by decide, by decide, by decide +kernel⟩
theorem dw_X8_352 : dk_WV "DuckWalk" 352 yX8_countDucks cX8_countDucks 4 (some .int) 1 := ⟨dk_m4 60 rfl rfl, dk_m4 62 rfl rfl, dk_mp 15 rfl rfl, dk_m1 1 rfl rfl, dk_m4 63 rfl rfl, by decide, by decide, by decide +kernel⟩
theorem dw_X8_356 : dk_WV "DuckWalk" 356 yX8_countPlanks cX8_countPlanks 3 (some .int) 0 := ⟨dk_m4 64 rfl rfl, dk_m4 66 rfl rfl, dk_mp 16 rfl rfl, dk_m1 1 rfl rfl, dk_m4 67 rfl rfl, by decide, by decide, by decide +kernel⟩
theorem dw_X8_359 : dk_WV "DuckWalk" 359 yX8_countKept cX8_countKept 3 (some .int) 0 := ⟨dk_m4 68 rfl rfl, dk_m4 70 rfl rfl, dk_mp 17 rfl rfl, dk_m1 1 rfl rfl, dk_m4 71 rfl rfl, by decide, by decide, by decide +kernel⟩
theorem dw_X8_362 : dk_WV "DuckWalk" 362 yX8_countRows cX8_countRows 3 (some .int) 0 := ⟨dk_m4 72 rfl rfl, dk_m4 74 rfl rfl, dk_mp 18 rfl rfl, dk_m1 1 rfl rfl, dk_m4 75 rfl rfl, by decide, by decide, by decide +kernel⟩
theorem dw_X8_365 : dk_WV "DuckWalk" 365 yX8_countScripts cX8_countScripts 3 (some .int) 0 := ⟨dk_m4 76 rfl rfl, dk_m4 78 rfl rfl, dk_mp 19 rfl rfl, dk_m1 1 rfl rfl, dk_m4 79 rfl rfl, by decide, by decide, by decide +kernel⟩
theorem dw_L_189 : dk_WV "DuckWalkLaw" 189 yX8_finding cX8_finding 1 (some .int) 0 := ⟨dk_m4 80 rfl rfl, dk_m4 81 rfl rfl, dk_m4 82 rfl rfl, dk_m1 1 rfl rfl, dk_m4 83 rfl rfl, by decide, by decide, by decide +kernel⟩
theorem dw_L_193 : dk_WV "DuckWalkLaw" 193 yX8_findings cX8_findings 2 (some .int) 1 := ⟨dk_m4 84 rfl rfl, dk_m4 85 rfl rfl, dk_m4 86 rfl rfl, dk_m1 1 rfl rfl, dk_m4 87 rfl rfl, by decide, by decide, by decide +kernel⟩
theorem dw_L_197 : dk_WV "DuckWalkLaw" 197 yX8_digest cX8_digest 4 (some .long) 0 := ⟨dk_m4 88 rfl rfl, dk_m4 89 rfl rfl, dk_m4 90 rfl rfl, dk_m1 1 rfl rfl, dk_m4 91 rfl rfl, by decide, by decide, by decide +kernel⟩
theorem dw_X8_372 : dk_WV "DuckWalk" 372 yX1_digestOn cX1_digestOn 6 (some .long) 1 := ⟨dk_m4 94 rfl rfl, dk_m4 95 rfl rfl, dk_m4 96 rfl rfl, dk_m1 3 rfl rfl, dk_m4 97 rfl rfl, by decide, by decide, by decide +kernel⟩
theorem dw_X1_51 : dk_WV "DuckWalk$Duck" 51 yX1_value cX1_value 2 (some .int) 1 := ⟨dk_m4 99 rfl rfl, dk_m3 1 rfl rfl, dk_m3 2 rfl rfl, dk_m1 3 rfl rfl, dk_m3 3 rfl rfl, by decide, by decide, by decide +kernel⟩
theorem dw_X8_376 : dk_WV "DuckWalk" 376 yX3_digestOn cX3_digestOn 6 (some .long) 1 := ⟨dk_m4 100 rfl rfl, dk_m4 101 rfl rfl, dk_m4 102 rfl rfl, dk_m1 4 rfl rfl, dk_m4 103 rfl rfl, by decide, by decide, by decide +kernel⟩
theorem dw_X8_377 : dk_WV "DuckWalk" 377 yX0_digestOn cX0_digestOn 6 (some .long) 1 := ⟨dk_m4 105 rfl rfl, dk_m4 106 rfl rfl, dk_m4 107 rfl rfl, dk_m1 2 rfl rfl, dk_m4 108 rfl rfl, by decide, by decide, by decide +kernel⟩
theorem dw_X0_86 : dk_WV "DuckWalk$Course" 86 yX0_value cX0_value 2 (some .int) 1 := ⟨dk_m4 110 rfl rfl, dk_m3 72 rfl rfl, dk_m3 73 rfl rfl, dk_m1 2 rfl rfl, dk_m3 74 rfl rfl, by decide, by decide, by decide +kernel⟩
theorem dw_X8_378 : dk_WV "DuckWalk" 378 yX5_digestOn cX5_digestOn 6 (some .long) 1 := ⟨dk_m4 111 rfl rfl, dk_m4 112 rfl rfl, dk_m4 113 rfl rfl, dk_m1 8 rfl rfl, dk_m4 114 rfl rfl, by decide, by decide, by decide +kernel⟩
theorem dw_X8_379 : dk_WV "DuckWalk" 379 yX6_digestOn cX6_digestOn 6 (some .long) 1 := ⟨dk_m4 116 rfl rfl, dk_m4 117 rfl rfl, dk_m4 118 rfl rfl, dk_m1 9 rfl rfl, dk_m4 119 rfl rfl, by decide, by decide, by decide +kernel⟩
theorem dw_L_192 : dk_WV "DuckWalkLaw" 192 yX9_finding cX9_finding 1 (some .int) 0 := ⟨dk_m5 12 rfl rfl, dk_m5 13 rfl rfl, dk_m5 14 rfl rfl, dk_m1 10 rfl rfl, dk_m5 15 rfl rfl, by decide, by decide, by decide +kernel⟩
theorem dw_L_196 : dk_WV "DuckWalkLaw" 196 yX9_findings cX9_findings 2 (some .int) 1 := ⟨dk_m5 16 rfl rfl, dk_m5 17 rfl rfl, dk_m5 18 rfl rfl, dk_m1 10 rfl rfl, dk_m5 19 rfl rfl, by decide, by decide, by decide +kernel⟩
theorem dw_X9_80 : dk_WS "DuckWalkModel" 80 yX9_in cX9_in 3 (some .boolean) 3 := ⟨dk_m5 20 rfl rfl, dk_m5 21 rfl rfl, dk_m1 10 rfl rfl, dk_m5 22 rfl rfl, by decide, by decide, by decide +kernel⟩
theorem dw_L_175 : dk_WV "DuckWalkLaw" 175 yX9_asked cX9_asked 1 (some .int) 0 := ⟨dk_m5 23 rfl rfl, dk_m5 24 rfl rfl, dk_m5 25 rfl rfl, dk_m1 10 rfl rfl, dk_m5 26 rfl rfl, by decide, by decide, by decide +kernel⟩
theorem dw_L_180 : dk_WV "DuckWalkLaw" 180 yX9_upper cX9_upper 1 (some .long) 0 := ⟨dk_m5 27 rfl rfl, dk_m5 28 rfl rfl, dk_m5 29 rfl rfl, dk_m1 10 rfl rfl, dk_m5 30 rfl rfl, by decide, by decide, by decide +kernel⟩
theorem dw_L_184 : dk_WV "DuckWalkLaw" 184 yX9_lower cX9_lower 1 (some .long) 0 := ⟨dk_m5 31 rfl rfl, dk_m5 32 rfl rfl, dk_m5 33 rfl rfl, dk_m1 10 rfl rfl, dk_m5 34 rfl rfl, by decide, by decide, by decide +kernel⟩
theorem dw_L_17 : dk_WV "DuckWalkLaw" 17 yX9_row cX9_row 4 (some .int) 2 := ⟨dk_m5 35 rfl rfl, dk_m5 36 rfl rfl, dk_m5 37 rfl rfl, dk_m1 10 rfl rfl, dk_m5 38 rfl rfl, by decide, by decide, by decide +kernel⟩
theorem dw_X9_90 : dk_WS "DuckWalkModel" 90 yX9_isRow cX9_isRow 1 (some .boolean) 1 := ⟨dk_m5 39 rfl rfl, dk_m5 40 rfl rfl, dk_m1 10 rfl rfl, dk_m5 41 rfl rfl, by decide, by decide, by decide +kernel⟩
theorem dw_X9_94 : dk_WV "DuckWalkModel" 94 yX9_notes cX9_notes 2 (some .int) 1 := ⟨dk_m5 42 rfl rfl, dk_m5 44 rfl rfl, dk_mp 20 rfl rfl, dk_m1 10 rfl rfl, dk_m5 45 rfl rfl, by decide, by decide, by decide +kernel⟩
theorem dw_L_22 : dk_WV "DuckWalkLaw" 22 yX9_lay cX9_lay 5 (some .int) 3 := ⟨dk_m5 46 rfl rfl, dk_m5 47 rfl rfl, dk_m5 48 rfl rfl, dk_m1 10 rfl rfl, dk_m5 49 rfl rfl, by decide, by decide, by decide +kernel⟩
theorem dw_X9_98 : dk_WV "DuckWalkModel" 98 yX9_rowAt cX9_rowAt 3 (some .int) 2 := ⟨dk_m5 50 rfl rfl, dk_m5 52 rfl rfl, dk_mp 21 rfl rfl, dk_m1 10 rfl rfl, dk_m5 53 rfl rfl, by decide, by decide, by decide +kernel⟩
theorem dw_X9_102 : dk_WV "DuckWalkModel" 102 yX9_tells cX9_tells 3 (some .int) 2 := ⟨dk_m5 54 rfl rfl, dk_m5 56 rfl rfl, dk_mp 22 rfl rfl, dk_m1 10 rfl rfl, dk_m5 57 rfl rfl, by decide, by decide, by decide +kernel⟩
theorem dw_L_26 : dk_WV "DuckWalkLaw" 26 yX9_at cX9_at 3 (some .int) 2 := ⟨dk_m5 58 rfl rfl, dk_m5 59 rfl rfl, dk_m5 60 rfl rfl, dk_m1 10 rfl rfl, dk_m5 61 rfl rfl, by decide, by decide, by decide +kernel⟩
theorem dw_L_31 : dk_WV "DuckWalkLaw" 31 yX9_tear cX9_tear 2 (some .int) 1 := ⟨dk_m5 62 rfl rfl, dk_m5 63 rfl rfl, dk_m5 64 rfl rfl, dk_m1 10 rfl rfl, dk_m5 65 rfl rfl, by decide, by decide, by decide +kernel⟩
theorem dw_L_36 : dk_WV "DuckWalkLaw" 36 yX9_copy cX9_copy 7 (some .int) 5 := ⟨dk_m5 66 rfl rfl, dk_m5 67 rfl rfl, dk_m5 68 rfl rfl, dk_m1 10 rfl rfl, dk_m5 69 rfl rfl, by decide, by decide, by decide +kernel⟩
theorem dw_L_40 : dk_WV "DuckWalkLaw" 40 yX9_mean cX9_mean 5 (some .int) 1 := ⟨dk_m5 70 rfl rfl, dk_m5 71 rfl rfl, dk_m5 72 rfl rfl, dk_m1 10 rfl rfl, dk_m5 73 rfl rfl, by decide, by decide, by decide +kernel⟩
theorem dw_L_44 : dk_WV "DuckWalkLaw" 44 yX9_text cX9_text 4 (some .int) 2 := ⟨dk_m5 74 rfl rfl, dk_m5 75 rfl rfl, dk_m5 76 rfl rfl, dk_m1 10 rfl rfl, dk_m5 77 rfl rfl, by decide, by decide, by decide +kernel⟩
theorem dw_X9_105 : dk_WS "DuckWalkModel" 105 yX9_isText cX9_isText 1 (some .boolean) 1 := ⟨dk_m5 78 rfl rfl, dk_m5 79 rfl rfl, dk_m1 10 rfl rfl, dk_m5 80 rfl rfl, by decide, by decide, by decide +kernel⟩
theorem dw_L_48 : dk_WV "DuckWalkLaw" 48 yX9_put cX9_put 5 (some .int) 3 := ⟨dk_m5 81 rfl rfl, dk_m5 82 rfl rfl, dk_m5 83 rfl rfl, dk_m1 10 rfl rfl, dk_m5 84 rfl rfl, by decide, by decide, by decide +kernel⟩
theorem dw_L_53 : dk_WV "DuckWalkLaw" 53 yX9_fault cX9_fault 3 (some .int) 2 := ⟨dk_m5 85 rfl rfl, dk_m5 86 rfl rfl, dk_m5 87 rfl rfl, dk_m1 10 rfl rfl, dk_m5 88 rfl rfl, by decide, by decide, by decide +kernel⟩
theorem dw_X9_133 : dk_WV "DuckWalkModel" 133 yX9_boardFault cX9_boardFault 3 (some .int) 1 := ⟨dk_m5 89 rfl rfl, dk_m5 91 rfl rfl, dk_mp 23 rfl rfl, dk_m1 10 rfl rfl, dk_m5 92 rfl rfl, by decide, by decide, by decide +kernel⟩
theorem dw_X9_111 : dk_WV "DuckWalkModel" 111 yX9_byteAt cX9_byteAt 3 (some .int) 2 := ⟨dk_m5 93 rfl rfl, dk_m5 95 rfl rfl, dk_mp 24 rfl rfl, dk_m1 10 rfl rfl, dk_m5 96 rfl rfl, by decide, by decide, by decide +kernel⟩
theorem dw_X9_130 : dk_WV "DuckWalkModel" 130 yX9_readsBoard cX9_readsBoard 4 (some .boolean) 1 := ⟨dk_m5 97 rfl rfl, dk_m5 99 rfl rfl, dk_mp 25 rfl rfl, dk_m1 10 rfl rfl, dk_m5 100 rfl rfl, by decide, by decide, by decide +kernel⟩
theorem dw_X9_120 : dk_WV "DuckWalkModel" 120 yX9_figure cX9_figure 4 (some .boolean) 2 := ⟨dk_m5 101 rfl rfl, dk_m5 103 rfl rfl, dk_mp 26 rfl rfl, dk_m1 10 rfl rfl, dk_m5 104 rfl rfl, by decide, by decide, by decide +kernel⟩
theorem dw_X9_136 : dk_WV "DuckWalkModel" 136 yX9_walkerFault cX9_walkerFault 3 (some .int) 1 := ⟨dk_m5 105 rfl rfl, dk_m5 107 rfl rfl, dk_mp 27 rfl rfl, dk_m1 10 rfl rfl, dk_m5 108 rfl rfl, by decide, by decide, by decide +kernel⟩
theorem dw_X9_124 : dk_WV "DuckWalkModel" 124 yX9_readsSize cX9_readsSize 3 (some .boolean) 1 := ⟨dk_m5 109 rfl rfl, dk_m5 111 rfl rfl, dk_mp 28 rfl rfl, dk_m1 10 rfl rfl, dk_m5 112 rfl rfl, by decide, by decide, by decide +kernel⟩
theorem dw_X9_117 : dk_WS "DuckWalkModel" 117 yX9_itemOf cX9_itemOf 1 (some .int) 1 := ⟨dk_m5 113 rfl rfl, dk_m5 114 rfl rfl, dk_m1 10 rfl rfl, dk_m5 115 rfl rfl, by decide, by decide, by decide +kernel⟩
theorem dw_L_57 : dk_WV "DuckWalkLaw" 57 yX9_walker cX9_walker 4 (some .int) 2 := ⟨dk_m5 116 rfl rfl, dk_m5 117 rfl rfl, dk_m5 118 rfl rfl, dk_m1 10 rfl rfl, dk_m5 119 rfl rfl, by decide, by decide, by decide +kernel⟩
theorem dw_X9_139 : dk_WS "DuckWalkModel" 139 yX9_isPlace cX9_isPlace 1 (some .boolean) 1 := ⟨dk_m5 120 rfl rfl, dk_m5 121 rfl rfl, dk_m1 10 rfl rfl, dk_m5 122 rfl rfl, by decide, by decide, by decide +kernel⟩
theorem dw_X9_142 : dk_WS "DuckWalkModel" 142 yX9_bits cX9_bits 3 (some .int) 1 := ⟨dk_m5 123 rfl rfl, dk_m5 124 rfl rfl, dk_m1 10 rfl rfl, dk_m5 125 rfl rfl, by decide, by decide, by decide +kernel⟩
theorem dw_L_61 : dk_WV "DuckWalkLaw" 61 yX9_board cX9_board 4 (some .int) 2 := ⟨dk_m5 126 rfl rfl, dk_m5 127 rfl rfl, dk_m5 128 rfl rfl, dk_m1 10 rfl rfl, dk_m5 129 rfl rfl, by decide, by decide, by decide +kernel⟩
theorem dw_L_65 : dk_WV "DuckWalkLaw" 65 yX9_about cX9_about 3 (some .int) 2 := ⟨dk_m5 130 rfl rfl, dk_m5 131 rfl rfl, dk_m5 132 rfl rfl, dk_m1 10 rfl rfl, dk_m5 133 rfl rfl, by decide, by decide, by decide +kernel⟩
theorem dw_L_69 : dk_WV "DuckWalkLaw" 69 yX9_rub cX9_rub 3 (some .int) 2 := ⟨dk_m5 134 rfl rfl, dk_m5 135 rfl rfl, dk_m5 136 rfl rfl, dk_m1 10 rfl rfl, dk_m5 137 rfl rfl, by decide, by decide, by decide +kernel⟩
theorem dw_L_73 : dk_WV "DuckWalkLaw" 73 yX9_wax cX9_wax 5 (some .int) 3 := ⟨dk_m5 138 rfl rfl, dk_m5 139 rfl rfl, dk_m5 140 rfl rfl, dk_m1 10 rfl rfl, dk_m5 141 rfl rfl, by decide, by decide, by decide +kernel⟩
theorem dw_L_77 : dk_WV "DuckWalkLaw" 77 yX9_walk cX9_walk 7 (some .int) 5 := ⟨dk_m5 142 rfl rfl, dk_m5 143 rfl rfl, dk_m5 144 rfl rfl, dk_m1 10 rfl rfl, dk_m5 145 rfl rfl, by decide, by decide, by decide +kernel⟩
theorem dw_X9_183 : dk_WV "DuckWalkModel" 183 yX9_starts cX9_starts 3 none 2 := ⟨dk_m5 146 rfl rfl, dk_m5 148 rfl rfl, dk_mp 29 rfl rfl, dk_m1 10 rfl rfl, dk_m5 149 rfl rfl, by decide, by decide, by decide +kernel⟩
theorem dw_X9_187 : dk_WV "DuckWalkModel" 187 yX9_storeWalk cX9_storeWalk 1 none 0 := ⟨dk_m5 150 rfl rfl, dk_m5 152 rfl rfl, dk_mp 30 rfl rfl, dk_m1 10 rfl rfl, dk_m5 153 rfl rfl, by decide, by decide, by decide +kernel⟩
theorem dw_X9_190 : dk_WV "DuckWalkModel" 190 yX9_layWalk cX9_layWalk 2 none 0 := ⟨dk_m5 154 rfl rfl, dk_m5 156 rfl rfl, dk_mp 31 rfl rfl, dk_m1 10 rfl rfl, dk_m5 157 rfl rfl, by decide, by decide, by decide +kernel⟩
theorem dw_X9_169 : dk_WV "DuckWalkModel" 169 yX9_gain cX9_gain 1 (some .int) 0 := ⟨dk_m5 158 rfl rfl, dk_m5 160 rfl rfl, dk_mp 32 rfl rfl, dk_m1 10 rfl rfl, dk_m5 161 rfl rfl, by decide, by decide, by decide +kernel⟩
theorem dw_L_81 : dk_WV "DuckWalkLaw" 81 yX9_go cX9_go 3 (some .int) 1 := ⟨dk_m5 162 rfl rfl, dk_m5 163 rfl rfl, dk_m5 164 rfl rfl, dk_m1 10 rfl rfl, dk_m5 165 rfl rfl, by decide, by decide, by decide +kernel⟩
theorem dw_X9_193 : dk_WV "DuckWalkModel" 193 yX9_walksOn cX9_walksOn 2 (some .boolean) 0 := ⟨dk_m5 166 rfl rfl, dk_m5 168 rfl rfl, dk_mp 33 rfl rfl, dk_m1 10 rfl rfl, dk_m5 169 rfl rfl, by decide, by decide, by decide +kernel⟩
theorem dw_X9_179 : dk_WV "DuckWalkModel" 179 yX9_step cX9_step 4 none 1 := ⟨dk_m5 170 rfl rfl, dk_m5 172 rfl rfl, dk_mp 34 rfl rfl, dk_m1 10 rfl rfl, dk_m5 173 rfl rfl, by decide, by decide, by decide +kernel⟩
theorem dw_X9_173 : dk_WV "DuckWalkModel" 173 yX9_fallsAt cX9_fallsAt 1 (some .int) 0 := ⟨dk_m5 174 rfl rfl, dk_m5 176 rfl rfl, dk_mp 35 rfl rfl, dk_m1 10 rfl rfl, dk_m5 177 rfl rfl, by decide, by decide, by decide +kernel⟩
theorem dw_L_85 : dk_WV "DuckWalkLaw" 85 yX9_told cX9_told 2 (some .int) 1 := ⟨dk_m5 178 rfl rfl, dk_m5 179 rfl rfl, dk_m5 180 rfl rfl, dk_m1 10 rfl rfl, dk_m5 181 rfl rfl, by decide, by decide, by decide +kernel⟩
theorem dw_X9_197 : dk_WV "DuckWalkModel" 197 yX9_walkTells cX9_walkTells 2 (some .int) 1 := ⟨dk_m5 182 rfl rfl, dk_m5 184 rfl rfl, dk_mp 36 rfl rfl, dk_m1 10 rfl rfl, dk_m5 185 rfl rfl, by decide, by decide, by decide +kernel⟩
theorem dw_L_89 : dk_WV "DuckWalkLaw" 89 yX9_tocks cX9_tocks 6 (some .int) 2 := ⟨dk_m5 186 rfl rfl, dk_m5 187 rfl rfl, dk_m5 188 rfl rfl, dk_m1 10 rfl rfl, dk_m5 189 rfl rfl, by decide, by decide, by decide +kernel⟩
theorem dw_L_93 : dk_WV "DuckWalkLaw" 93 yX9_tilt cX9_tilt 3 (some .int) 1 := ⟨dk_m5 190 rfl rfl, dk_m5 191 rfl rfl, dk_m5 192 rfl rfl, dk_m1 10 rfl rfl, dk_m5 193 rfl rfl, by decide, by decide, by decide +kernel⟩
theorem dw_L_97 : dk_WV "DuckWalkLaw" 97 yX9_keep cX9_keep 2 (some .int) 1 := ⟨dk_m5 194 rfl rfl, dk_m5 195 rfl rfl, dk_m5 196 rfl rfl, dk_m1 10 rfl rfl, dk_m5 197 rfl rfl, by decide, by decide, by decide +kernel⟩
theorem dw_X9_200 : dk_WV "DuckWalkModel" 200 yX9_copyWalk cX9_copyWalk 4 none 2 := ⟨dk_m5 198 rfl rfl, dk_m5 200 rfl rfl, dk_mp 37 rfl rfl, dk_m1 10 rfl rfl, dk_m5 201 rfl rfl, by decide, by decide, by decide +kernel⟩
theorem dw_L_101 : dk_WV "DuckWalkLaw" 101 yX9_on cX9_on 2 (some .int) 1 := ⟨dk_m5 202 rfl rfl, dk_m5 203 rfl rfl, dk_m5 204 rfl rfl, dk_m1 10 rfl rfl, dk_m5 205 rfl rfl, by decide, by decide, by decide +kernel⟩
theorem dw_L_106 : dk_WV "DuckWalkLaw" 106 yX9_turns cX9_turns 4 (some .int) 0 := ⟨dk_m5 206 rfl rfl, dk_m5 207 rfl rfl, dk_m5 208 rfl rfl, dk_m1 10 rfl rfl, dk_m5 209 rfl rfl, by decide, by decide, by decide +kernel⟩
theorem dw_L_111 : dk_WV "DuckWalkLaw" 111 yX9_going cX9_going 7 (some .int) 4 := ⟨dk_m5 210 rfl rfl, dk_m5 211 rfl rfl, dk_m5 212 rfl rfl, dk_m1 10 rfl rfl, dk_m5 213 rfl rfl, by decide, by decide, by decide +kernel⟩
theorem dw_X9_238 : dk_WV "DuckWalkModel" 238 yX9_need cX9_need 6 (some .int) 5 := ⟨dk_m5 214 rfl rfl, dk_m5 216 rfl rfl, dk_mp 38 rfl rfl, dk_m1 10 rfl rfl, dk_m5 217 rfl rfl, by decide, by decide, by decide +kernel⟩
theorem dw_X9_230 : dk_WV "DuckWalkModel" 230 yX9_areGood cX9_areGood 5 (some .boolean) 4 := ⟨dk_m5 218 rfl rfl, dk_m5 220 rfl rfl, dk_mp 39 rfl rfl, dk_m1 10 rfl rfl, dk_m5 221 rfl rfl, by decide, by decide, by decide +kernel⟩
theorem dw_X9_234 : dk_WV "DuckWalkModel" 234 yX9_looksAt cX9_looksAt 5 none 3 := ⟨dk_m5 222 rfl rfl, dk_m5 224 rfl rfl, dk_mp 40 rfl rfl, dk_m1 10 rfl rfl, dk_m5 225 rfl rfl, by decide, by decide, by decide +kernel⟩
theorem dw_X9_224 : dk_WV "DuckWalkModel" 224 yX9_goingOf cX9_goingOf 4 (some .int) 1 := ⟨dk_m5 226 rfl rfl, dk_m5 228 rfl rfl, dk_mp 41 rfl rfl, dk_m1 10 rfl rfl, dk_m5 229 rfl rfl, by decide, by decide, by decide +kernel⟩
theorem dw_X9_206 : dk_WV "DuckWalkModel" 206 yX9_steps cX9_steps 2 none 1 := ⟨dk_m5 230 rfl rfl, dk_m5 232 rfl rfl, dk_mp 42 rfl rfl, dk_m1 10 rfl rfl, dk_m5 233 rfl rfl, by decide, by decide, by decide +kernel⟩
theorem dw_X9_218 : dk_WS "DuckWalkModel" 218 yX9_lesser cX9_lesser 2 (some .int) 2 := ⟨dk_m5 234 rfl rfl, dk_m5 235 rfl rfl, dk_m1 10 rfl rfl, dk_m5 236 rfl rfl, by decide, by decide, by decide +kernel⟩
theorem dw_X9_221 : dk_WS "DuckWalkModel" 221 yX9_greater cX9_greater 2 (some .int) 2 := ⟨dk_m5 237 rfl rfl, dk_m5 238 rfl rfl, dk_m1 10 rfl rfl, dk_m5 239 rfl rfl, by decide, by decide, by decide +kernel⟩
theorem dw_L_115 : dk_WV "DuckWalkLaw" 115 yX9_mark cX9_mark 7 (some .int) 5 := ⟨dk_m6 0 rfl rfl, dk_m6 1 rfl rfl, dk_m6 2 rfl rfl, dk_m1 10 rfl rfl, dk_m6 3 rfl rfl, by decide, by decide, by decide +kernel⟩
theorem dw_X9_227 : dk_WS "DuckWalkModel" 227 yX9_isOf cX9_isOf 2 (some .boolean) 2 := ⟨dk_m6 4 rfl rfl, dk_m6 5 rfl rfl, dk_m1 10 rfl rfl, dk_m6 6 rfl rfl, by decide, by decide, by decide +kernel⟩
theorem dw_X9_242 : dk_WV "DuckWalkModel" 242 yX9_unlikePaces cX9_unlikePaces 4 (some .int) 1 := ⟨dk_m6 7 rfl rfl, dk_m6 9 rfl rfl, dk_mp 43 rfl rfl, dk_m1 10 rfl rfl, dk_m6 10 rfl rfl, by decide, by decide, by decide +kernel⟩
theorem dw_L_119 : dk_WV "DuckWalkLaw" 119 yX9_lines cX9_lines 9 (some .int) 4 := ⟨dk_m6 11 rfl rfl, dk_m6 12 rfl rfl, dk_m6 13 rfl rfl, dk_m1 10 rfl rfl, dk_m6 14 rfl rfl, by decide, by decide, by decide +kernel⟩
theorem dw_L_123 : dk_WV "DuckWalkLaw" 123 yX9_begins cX9_begins 8 (some .int) 3 := ⟨dk_m6 15 rfl rfl, dk_m6 16 rfl rfl, dk_m6 17 rfl rfl, dk_m1 10 rfl rfl, dk_m6 18 rfl rfl, by decide, by decide, by decide +kernel⟩
theorem dw_X9_245 : dk_WV "DuckWalkModel" 245 yX9_walksWell cX9_walksWell 2 (some .boolean) 1 := ⟨dk_m6 19 rfl rfl, dk_m6 21 rfl rfl, dk_mp 44 rfl rfl, dk_m1 10 rfl rfl, dk_m6 22 rfl rfl, by decide, by decide, by decide +kernel⟩
theorem dw_L_127 : dk_WV "DuckWalkLaw" 127 yX9_mends cX9_mends 9 (some .int) 5 := ⟨dk_m6 23 rfl rfl, dk_m6 24 rfl rfl, dk_m6 25 rfl rfl, dk_m1 10 rfl rfl, dk_m6 26 rfl rfl, by decide, by decide, by decide +kernel⟩
theorem dw_L_131 : dk_WV "DuckWalkLaw" 131 yX9_wide cX9_wide 9 (some .int) 3 := ⟨dk_m6 27 rfl rfl, dk_m6 28 rfl rfl, dk_m6 29 rfl rfl, dk_m1 10 rfl rfl, dk_m6 30 rfl rfl, by decide, by decide, by decide +kernel⟩
theorem dw_X9_248 : dk_WV "DuckWalkModel" 248 yX9_span cX9_span 4 (some .int) 1 := ⟨dk_m6 31 rfl rfl, dk_m6 33 rfl rfl, dk_mp 45 rfl rfl, dk_m1 10 rfl rfl, dk_m6 34 rfl rfl, by decide, by decide, by decide +kernel⟩
theorem dw_L_135 : dk_WV "DuckWalkLaw" 135 yX9_mend cX9_mend 8 (some .int) 4 := ⟨dk_m6 35 rfl rfl, dk_m6 36 rfl rfl, dk_m6 37 rfl rfl, dk_m1 10 rfl rfl, dk_m6 38 rfl rfl, by decide, by decide, by decide +kernel⟩
theorem dw_L_139 : dk_WV "DuckWalkLaw" 139 yX9_limp cX9_limp 9 (some .int) 3 := ⟨dk_m6 39 rfl rfl, dk_m6 40 rfl rfl, dk_m6 41 rfl rfl, dk_m1 10 rfl rfl, dk_m6 42 rfl rfl, by decide, by decide, by decide +kernel⟩
theorem dw_X9_251 : dk_WV "DuckWalkModel" 251 yX9_needTocks cX9_needTocks 6 (some .int) 3 := ⟨dk_m6 43 rfl rfl, dk_m6 45 rfl rfl, dk_mp 46 rfl rfl, dk_m1 10 rfl rfl, dk_m6 46 rfl rfl, by decide, by decide, by decide +kernel⟩
theorem dw_X9_255 : dk_WV "DuckWalkModel" 255 yX9_offTocks cX9_offTocks 7 (some .int) 3 := ⟨dk_m6 47 rfl rfl, dk_m6 49 rfl rfl, dk_mp 47 rfl rfl, dk_m1 10 rfl rfl, dk_m6 50 rfl rfl, by decide, by decide, by decide +kernel⟩
theorem dw_L_143 : dk_WV "DuckWalkLaw" 143 yX9_odds cX9_odds 10 (some .int) 3 := ⟨dk_m6 51 rfl rfl, dk_m6 52 rfl rfl, dk_m6 53 rfl rfl, dk_m1 10 rfl rfl, dk_m6 54 rfl rfl, by decide, by decide, by decide +kernel⟩
theorem dw_X9_258 : dk_WV "DuckWalkModel" 258 yX9_fraction cX9_fraction 12 (some .int) 3 := ⟨dk_m6 55 rfl rfl, dk_m6 57 rfl rfl, dk_mp 48 rfl rfl, dk_m1 10 rfl rfl, dk_m6 58 rfl rfl, by decide, by decide, by decide +kernel⟩
theorem dw_L_147 : dk_WV "DuckWalkLaw" 147 yX9_part cX9_part 8 (some .int) 4 := ⟨dk_m6 59 rfl rfl, dk_m6 60 rfl rfl, dk_m6 61 rfl rfl, dk_m1 10 rfl rfl, dk_m6 62 rfl rfl, by decide, by decide, by decide +kernel⟩
theorem dw_L_151 : dk_WV "DuckWalkLaw" 151 yX9_made cX9_made 9 (some .int) 4 := ⟨dk_m6 63 rfl rfl, dk_m6 64 rfl rfl, dk_m6 65 rfl rfl, dk_m1 10 rfl rfl, dk_m6 66 rfl rfl, by decide, by decide, by decide +kernel⟩
theorem dw_L_155 : dk_WV "DuckWalkLaw" 155 yX9_would cX9_would 13 (some .int) 4 := ⟨dk_m6 67 rfl rfl, dk_m6 68 rfl rfl, dk_m6 69 rfl rfl, dk_m1 10 rfl rfl, dk_m6 70 rfl rfl, by decide, by decide, by decide +kernel⟩
theorem dw_L_159 : dk_WV "DuckWalkLaw" 159 yX9_yard cX9_yard 8 (some .int) 5 := ⟨dk_m6 71 rfl rfl, dk_m6 72 rfl rfl, dk_m6 73 rfl rfl, dk_m1 10 rfl rfl, dk_m6 74 rfl rfl, by decide, by decide, by decide +kernel⟩
theorem dw_L_163 : dk_WV "DuckWalkLaw" 163 yX9_push cX9_push 9 (some .int) 3 := ⟨dk_m6 75 rfl rfl, dk_m6 76 rfl rfl, dk_m6 77 rfl rfl, dk_m1 10 rfl rfl, dk_m6 78 rfl rfl, by decide, by decide, by decide +kernel⟩
theorem dw_L_167 : dk_WV "DuckWalkLaw" 167 yX9_bears cX9_bears 10 (some .int) 5 := ⟨dk_m6 79 rfl rfl, dk_m6 80 rfl rfl, dk_m6 81 rfl rfl, dk_m1 10 rfl rfl, dk_m6 82 rfl rfl, by decide, by decide, by decide +kernel⟩
theorem dw_L_171 : dk_WV "DuckWalkLaw" 171 yX9_meets cX9_meets 7 (some .int) 5 := ⟨dk_m6 83 rfl rfl, dk_m6 84 rfl rfl, dk_m6 85 rfl rfl, dk_m1 10 rfl rfl, dk_m6 86 rfl rfl, by decide, by decide, by decide +kernel⟩
theorem dw_L_188 : dk_WV "DuckWalkLaw" 188 yX9_count cX9_count 2 (some .int) 1 := ⟨dk_m6 87 rfl rfl, dk_m6 88 rfl rfl, dk_m6 89 rfl rfl, dk_m1 10 rfl rfl, dk_m6 90 rfl rfl, by decide, by decide, by decide +kernel⟩
theorem dw_X9_262 : dk_WV "DuckWalkModel" 262 yX9_counted cX9_counted 4 (some .int) 1 := ⟨dk_m6 91 rfl rfl, dk_m6 93 rfl rfl, dk_mp 49 rfl rfl, dk_m1 10 rfl rfl, dk_m6 94 rfl rfl, by decide, by decide, by decide +kernel⟩
theorem dw_L_200 : dk_WV "DuckWalkLaw" 200 yX9_digest cX9_digest 3 (some .long) 0 := ⟨dk_m6 95 rfl rfl, dk_m6 96 rfl rfl, dk_m6 97 rfl rfl, dk_m1 10 rfl rfl, dk_m6 98 rfl rfl, by decide, by decide, by decide +kernel⟩
theorem dw_X9_272 : dk_WV "DuckWalkModel" 272 yX9_mix cX9_mix 3 none 1 := ⟨dk_m6 100 rfl rfl, dk_m6 102 rfl rfl, dk_mp 50 rfl rfl, dk_m1 10 rfl rfl, dk_m6 103 rfl rfl, by decide, by decide, by decide +kernel⟩
theorem dw_X9_278 : dk_WV "DuckWalkModel" 278 yX9_mixBooks cX9_mixBooks 3 none 0 := ⟨dk_m6 105 rfl rfl, dk_m6 107 rfl rfl, dk_mp 51 rfl rfl, dk_m1 10 rfl rfl, dk_m6 108 rfl rfl, by decide, by decide, by decide +kernel⟩
theorem dr_50 : dk_Rw 50 6 31 2 4 := by
  intro g S k h
  refine ⟨_, ?_, rfl⟩
  rw [dk_at (dk_kd_lt h (by decide))]
  unfold dk_cel dk_ce
  rw [h]
  rfl
theorem dr_51 : dk_Rw 51 4 43 2 5 := by
  intro g S k h
  refine ⟨_, ?_, rfl⟩
  rw [dk_at (dk_kd_lt h (by decide))]
  unfold dk_cel dk_ce
  rw [h]
  rfl
theorem dr_52 : dk_Rw 52 4 51 2 6 := by
  intro g S k h
  refine ⟨_, ?_, rfl⟩
  rw [dk_at (dk_kd_lt h (by decide))]
  unfold dk_cel dk_ce
  rw [h]
  rfl
theorem dr_53 : dk_Rw 53 4 59 2 7 := by
  intro g S k h
  refine ⟨_, ?_, rfl⟩
  rw [dk_at (dk_kd_lt h (by decide))]
  unfold dk_cel dk_ce
  rw [h]
  rfl
theorem dr_54 : dk_Rw 54 3 67 5 8 := by
  intro g S k h
  refine ⟨_, ?_, rfl⟩
  rw [dk_at (dk_kd_lt h (by decide))]
  unfold dk_cel dk_ce
  rw [h]
  rfl
theorem dt_all : ∀ k, k < 103 → (dk_kd k = 0 → dk_kd (k + 1) = 1 ∧ dk_kd (k + 2) = 1006 ∧ dk_kd (k + 3) = 3 ∧ dk_kd (k + 4) = 1100) ∧ (dk_kd k = 1 → dk_kd (k + 1) = 1006) ∧ (dk_kd k = 3 → dk_kd (k + 1) = 1100) ∧ (dk_kd k = 5 → dk_kd (k + 1) = 1060) ∧ (dk_kd k = 6 → dk_kd (k + 1) = 2080) := by decide +kernel
theorem dt_0_1 {k : Nat} (h : dk_kd k = 0) : dk_kd (k + 1) = 1 := ((dt_all k (dk_kd_lt h (by decide))).1 h).1
theorem dt_0_2 {k : Nat} (h : dk_kd k = 0) : dk_kd (k + 2) = 1006 := ((dt_all k (dk_kd_lt h (by decide))).1 h).2.1
theorem dt_0_3 {k : Nat} (h : dk_kd k = 0) : dk_kd (k + 3) = 3 := ((dt_all k (dk_kd_lt h (by decide))).1 h).2.2.1
theorem dt_0_4 {k : Nat} (h : dk_kd k = 0) : dk_kd (k + 4) = 1100 := ((dt_all k (dk_kd_lt h (by decide))).1 h).2.2.2
theorem dt_1_1 {k : Nat} (h : dk_kd k = 1) : dk_kd (k + 1) = 1006 := (dt_all k (dk_kd_lt h (by decide))).2.1 h
theorem dt_3_1 {k : Nat} (h : dk_kd k = 3) : dk_kd (k + 1) = 1100 := (dt_all k (dk_kd_lt h (by decide))).2.2.1 h
theorem dt_5_1 {k : Nat} (h : dk_kd k = 5) : dk_kd (k + 1) = 1060 := (dt_all k (dk_kd_lt h (by decide))).2.2.2.1 h
theorem dt_6_1 {k : Nat} (h : dk_kd k = 6) : dk_kd (k + 1) = 2080 := (dt_all k (dk_kd_lt h (by decide))).2.2.2.2 h
theorem dt_el : (∀ i, i < 6 → dk_kd (31 + 2 * i) = 5) ∧ (∀ i, i < 4 → dk_kd (43 + 2 * i) = 6) ∧ (∀ i, i < 4 → dk_kd (51 + 2 * i) = 1) ∧ (∀ i, i < 4 → dk_kd (59 + 2 * i) = 3) ∧ (∀ i, i < 3 → dk_kd (67 + 5 * i) = 0) := by decide +kernel
theorem dk_in_lt {i : Int32} {n : Nat} (h : dk_in i n = true) : i.toNatClampNeg < n := Nat.not_le.mp fun q => dk_in_of h (Or.inr q)
theorem dt_50 {i : Int32} (h : dk_in i 6 = true) : dk_kd (31 + 2 * i.toNatClampNeg) = 5 := dt_el.1 _ (dk_in_lt h)
theorem dt_51 {i : Int32} (h : dk_in i 4 = true) : dk_kd (43 + 2 * i.toNatClampNeg) = 6 := dt_el.2.1 _ (dk_in_lt h)
theorem dt_52 {i : Int32} (h : dk_in i 4 = true) : dk_kd (51 + 2 * i.toNatClampNeg) = 1 := dt_el.2.2.1 _ (dk_in_lt h)
theorem dt_53 {i : Int32} (h : dk_in i 4 = true) : dk_kd (59 + 2 * i.toNatClampNeg) = 3 := dt_el.2.2.2.1 _ (dk_in_lt h)
theorem dt_54 {i : Int32} (h : dk_in i 3 = true) : dk_kd (67 + 5 * i.toNatClampNeg) = 0 := dt_el.2.2.2.2 _ (dk_in_lt h)
theorem dc_bipush_m9 : (Int8.ofInt (-9)).toInt32 = (-9 : Int32) := by decide
theorem dc_bipush_m6 : (Int8.ofInt (-6)).toInt32 = (-6 : Int32) := by decide
theorem dc_bipush_m4 : (Int8.ofInt (-4)).toInt32 = (-4 : Int32) := by decide
theorem dc_bipush_m3 : (Int8.ofInt (-3)).toInt32 = (-3 : Int32) := by decide
theorem dc_bipush_6 : (Int8.ofInt 6).toInt32 = (6 : Int32) := by decide
theorem dc_bipush_7 : (Int8.ofInt 7).toInt32 = (7 : Int32) := by decide
theorem dc_bipush_8 : (Int8.ofInt 8).toInt32 = (8 : Int32) := by decide
theorem dc_bipush_9 : (Int8.ofInt 9).toInt32 = (9 : Int32) := by decide
theorem dc_bipush_10 : (Int8.ofInt 10).toInt32 = (10 : Int32) := by decide
theorem dc_bipush_11 : (Int8.ofInt 11).toInt32 = (11 : Int32) := by decide
theorem dc_bipush_12 : (Int8.ofInt 12).toInt32 = (12 : Int32) := by decide
theorem dc_bipush_13 : (Int8.ofInt 13).toInt32 = (13 : Int32) := by decide
theorem dc_bipush_14 : (Int8.ofInt 14).toInt32 = (14 : Int32) := by decide
theorem dc_bipush_16 : (Int8.ofInt 16).toInt32 = (16 : Int32) := by decide
theorem dc_bipush_18 : (Int8.ofInt 18).toInt32 = (18 : Int32) := by decide
theorem dc_bipush_20 : (Int8.ofInt 20).toInt32 = (20 : Int32) := by decide
theorem dc_bipush_27 : (Int8.ofInt 27).toInt32 = (27 : Int32) := by decide
theorem dc_bipush_28 : (Int8.ofInt 28).toInt32 = (28 : Int32) := by decide
theorem dc_bipush_32 : (Int8.ofInt 32).toInt32 = (32 : Int32) := by decide
theorem dc_bipush_48 : (Int8.ofInt 48).toInt32 = (48 : Int32) := by decide
theorem dc_bipush_57 : (Int8.ofInt 57).toInt32 = (57 : Int32) := by decide
theorem dc_bipush_58 : (Int8.ofInt 58).toInt32 = (58 : Int32) := by decide
theorem dc_bipush_60 : (Int8.ofInt 60).toInt32 = (60 : Int32) := by decide
theorem dc_bipush_63 : (Int8.ofInt 63).toInt32 = (63 : Int32) := by decide
theorem dc_bipush_64 : (Int8.ofInt 64).toInt32 = (64 : Int32) := by decide
theorem dc_bipush_80 : (Int8.ofInt 80).toInt32 = (80 : Int32) := by decide
theorem dc_bipush_81 : (Int8.ofInt 81).toInt32 = (81 : Int32) := by decide
theorem dc_bipush_98 : (Int8.ofInt 98).toInt32 = (98 : Int32) := by decide
theorem dc_bipush_99 : (Int8.ofInt 99).toInt32 = (99 : Int32) := by decide
theorem dc_bipush_100 : (Int8.ofInt 100).toInt32 = (100 : Int32) := by decide
theorem dc_bipush_101 : (Int8.ofInt 101).toInt32 = (101 : Int32) := by decide
theorem dc_bipush_114 : (Int8.ofInt 114).toInt32 = (114 : Int32) := by decide
theorem dc_bipush_117 : (Int8.ofInt 117).toInt32 = (117 : Int32) := by decide
theorem dc_bipush_127 : (Int8.ofInt 127).toInt32 = (127 : Int32) := by decide
theorem dc_iconst_m1 : Int32.ofInt (-1) = (-1 : Int32) := by decide
theorem dc_iconst_0 : Int32.ofInt 0 = (0 : Int32) := by decide
theorem dc_iconst_1 : Int32.ofInt 1 = (1 : Int32) := by decide
theorem dc_iconst_2 : Int32.ofInt 2 = (2 : Int32) := by decide
theorem dc_iconst_3 : Int32.ofInt 3 = (3 : Int32) := by decide
theorem dc_iconst_4 : Int32.ofInt 4 = (4 : Int32) := by decide
theorem dc_iconst_5 : Int32.ofInt 5 = (5 : Int32) := by decide
theorem dc_iconst_6 : Int32.ofInt 6 = (6 : Int32) := by decide
theorem dc_sipush_199 : (Int16.ofInt 199).toInt32 = (199 : Int32) := by decide
theorem dc_sipush_200 : (Int16.ofInt 200).toInt32 = (200 : Int32) := by decide
theorem dc_sipush_320 : (Int16.ofInt 320).toInt32 = (320 : Int32) := by decide
theorem dc_sipush_360 : (Int16.ofInt 360).toInt32 = (360 : Int32) := by decide
theorem dc_sipush_400 : (Int16.ofInt 400).toInt32 = (400 : Int32) := by decide
theorem dc_sipush_401 : (Int16.ofInt 401).toInt32 = (401 : Int32) := by decide
theorem dc_sipush_404 : (Int16.ofInt 404).toInt32 = (404 : Int32) := by decide
theorem dc_sipush_456 : (Int16.ofInt 456).toInt32 = (456 : Int32) := by decide
theorem dc_sipush_1000 : (Int16.ofInt 1000).toInt32 = (1000 : Int32) := by decide
theorem dc_sipush_2000 : (Int16.ofInt 2000).toInt32 = (2000 : Int32) := by decide
theorem dc_sipush_10000 : (Int16.ofInt 10000).toInt32 = (10000 : Int32) := by decide
end
