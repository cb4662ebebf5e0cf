section
-- ===== PART A: goes FIRST, ahead of the names: the tables' words, and 'selects' of the private methods out of them =====
/-- a private method of a class that the tables say can be made, by its rows of tables_1 -/
def lw_okq (q : MethodName × Nat) : Prop := (q.1.cls ≠ "java/lang/invoke/MethodHandle" ∧ q.1.cls ≠ "java/lang/invoke/VarHandle") ∧ Cond.instantiable q.1.cls q.2 ∈ tables_1 ∧ Cond.privateMethod q.1 ∈ tables_1 ∧ Cond.instanceMethod q.1 ∈ tables_1
theorem lw_p0 : lw_okq (⟨"java/util/ArrayList", "fastRemove", "([Ljava/lang/Object;I)V"⟩, 3) := ⟨⟨by decide +kernel, by decide +kernel⟩, List.mem_of_getElem? (i := 48) (by decide +kernel), List.mem_of_getElem? (i := 257) (by decide +kernel), List.mem_of_getElem? (i := 258) (by decide +kernel)⟩
theorem lw_p1 : lw_okq (⟨"java/util/ArrayList", "add", "(Ljava/lang/Object;[Ljava/lang/Object;I)V"⟩, 3) := ⟨⟨by decide +kernel, by decide +kernel⟩, List.mem_of_getElem? (i := 48) (by decide +kernel), List.mem_of_getElem? (i := 291) (by decide +kernel), List.mem_of_getElem? (i := 292) (by decide +kernel)⟩
theorem lw_p2 : lw_okq (⟨"java/util/ArrayList", "grow", "()[Ljava/lang/Object;"⟩, 3) := ⟨⟨by decide +kernel, by decide +kernel⟩, List.mem_of_getElem? (i := 48) (by decide +kernel), List.mem_of_getElem? (i := 295) (by decide +kernel), List.mem_of_getElem? (i := 296) (by decide +kernel)⟩
theorem lw_p3 : lw_okq (⟨"java/util/ArrayList", "grow", "(I)[Ljava/lang/Object;"⟩, 3) := ⟨⟨by decide +kernel, by decide +kernel⟩, List.mem_of_getElem? (i := 48) (by decide +kernel), List.mem_of_getElem? (i := 299) (by decide +kernel), List.mem_of_getElem? (i := 300) (by decide +kernel)⟩
theorem lw_p4 : lw_okq (⟨"NotedVolume", "endGathering", "(LNotedVolume$Gathering;)V"⟩, 7) := ⟨⟨by decide +kernel, by decide +kernel⟩, List.mem_of_getElem? (i := 34) (by decide +kernel), List.mem_of_getElem? (i := 357) (by decide +kernel), List.mem_of_getElem? (i := 358) (by decide +kernel)⟩
theorem lw_p5 : lw_okq (⟨"NotedVolume", "checkPower", "()V"⟩, 7) := ⟨⟨by decide +kernel, by decide +kernel⟩, List.mem_of_getElem? (i := 34) (by decide +kernel), List.mem_of_getElem? (i := 433) (by decide +kernel), List.mem_of_getElem? (i := 434) (by decide +kernel)⟩
theorem lw_p6 : lw_okq (⟨"java/lang/Throwable", "fillInStackTrace", "(I)Ljava/lang/Throwable;"⟩, 6) := ⟨⟨by decide +kernel, by decide +kernel⟩, List.mem_of_getElem? (i := 477) (by decide +kernel), List.mem_of_getElem? (i := 475) (by decide +kernel), List.mem_of_getElem? (i := 476) (by decide +kernel)⟩
theorem lw_p7 : lw_okq (⟨"NotedVolume", "checkFolder", "(I)V"⟩, 7) := ⟨⟨by decide +kernel, by decide +kernel⟩, List.mem_of_getElem? (i := 34) (by decide +kernel), List.mem_of_getElem? (i := 527) (by decide +kernel), List.mem_of_getElem? (i := 528) (by decide +kernel)⟩
theorem lw_p8 : lw_okq (⟨"NotedVolume", "liveEntry", "(I)LNotedVolume$Entry;"⟩, 7) := ⟨⟨by decide +kernel, by decide +kernel⟩, List.mem_of_getElem? (i := 34) (by decide +kernel), List.mem_of_getElem? (i := 531) (by decide +kernel), List.mem_of_getElem? (i := 532) (by decide +kernel)⟩
theorem lw_p9 : lw_okq (⟨"NotedVolume", "checkNameFree", "(III)V"⟩, 7) := ⟨⟨by decide +kernel, by decide +kernel⟩, List.mem_of_getElem? (i := 34) (by decide +kernel), List.mem_of_getElem? (i := 567) (by decide +kernel), List.mem_of_getElem? (i := 568) (by decide +kernel)⟩
theorem lw_p10 : lw_okq (⟨"NotedVolume", "noteAndDo", "(LNotedVolume$Entry;I)Z"⟩, 7) := ⟨⟨by decide +kernel, by decide +kernel⟩, List.mem_of_getElem? (i := 34) (by decide +kernel), List.mem_of_getElem? (i := 572) (by decide +kernel), List.mem_of_getElem? (i := 573) (by decide +kernel)⟩
theorem lw_p11 : lw_okq (⟨"NotedVolume", "writeChangeNote", "(LNotedVolume$Entry;I)Z"⟩, 7) := ⟨⟨by decide +kernel, by decide +kernel⟩, List.mem_of_getElem? (i := 34) (by decide +kernel), List.mem_of_getElem? (i := 576) (by decide +kernel), List.mem_of_getElem? (i := 577) (by decide +kernel)⟩
theorem lw_p12 : lw_okq (⟨"NotedVolume", "writeClosingNote", "(LNotedVolume$Gathering;)Z"⟩, 7) := ⟨⟨by decide +kernel, by decide +kernel⟩, List.mem_of_getElem? (i := 34) (by decide +kernel), List.mem_of_getElem? (i := 585) (by decide +kernel), List.mem_of_getElem? (i := 586) (by decide +kernel)⟩
theorem lw_p13 : lw_okq (⟨"NotedVolume", "spendWrite", "()Z"⟩, 7) := ⟨⟨by decide +kernel, by decide +kernel⟩, List.mem_of_getElem? (i := 34) (by decide +kernel), List.mem_of_getElem? (i := 589) (by decide +kernel), List.mem_of_getElem? (i := 590) (by decide +kernel)⟩
theorem lw_p14 : lw_okq (⟨"java/util/ArrayList", "rangeCheckForAdd", "(I)V"⟩, 3) := ⟨⟨by decide +kernel, by decide +kernel⟩, List.mem_of_getElem? (i := 48) (by decide +kernel), List.mem_of_getElem? (i := 610) (by decide +kernel), List.mem_of_getElem? (i := 611) (by decide +kernel)⟩
theorem lw_p15 : lw_okq (⟨"java/util/ArrayList", "outOfBoundsMsg", "(I)Ljava/lang/String;"⟩, 3) := ⟨⟨by decide +kernel, by decide +kernel⟩, List.mem_of_getElem? (i := 48) (by decide +kernel), List.mem_of_getElem? (i := 623) (by decide +kernel), List.mem_of_getElem? (i := 624) (by decide +kernel)⟩
def lw_privs_1 : List (MethodName × Nat) := [(⟨"java/util/ArrayList", "fastRemove", "([Ljava/lang/Object;I)V"⟩, 3), (⟨"java/util/ArrayList", "add", "(Ljava/lang/Object;[Ljava/lang/Object;I)V"⟩, 3), (⟨"java/util/ArrayList", "grow", "()[Ljava/lang/Object;"⟩, 3), (⟨"java/util/ArrayList", "grow", "(I)[Ljava/lang/Object;"⟩, 3), (⟨"NotedVolume", "endGathering", "(LNotedVolume$Gathering;)V"⟩, 7), (⟨"NotedVolume", "checkPower", "()V"⟩, 7), (⟨"java/lang/Throwable", "fillInStackTrace", "(I)Ljava/lang/Throwable;"⟩, 6), (⟨"NotedVolume", "checkFolder", "(I)V"⟩, 7), (⟨"NotedVolume", "liveEntry", "(I)LNotedVolume$Entry;"⟩, 7), (⟨"NotedVolume", "checkNameFree", "(III)V"⟩, 7), (⟨"NotedVolume", "noteAndDo", "(LNotedVolume$Entry;I)Z"⟩, 7), (⟨"NotedVolume", "writeChangeNote", "(LNotedVolume$Entry;I)Z"⟩, 7), (⟨"NotedVolume", "writeClosingNote", "(LNotedVolume$Gathering;)Z"⟩, 7), (⟨"NotedVolume", "spendWrite", "()Z"⟩, 7), (⟨"java/util/ArrayList", "rangeCheckForAdd", "(I)V"⟩, 3), (⟨"java/util/ArrayList", "outOfBoundsMsg", "(I)Ljava/lang/String;"⟩, 3)]
theorem lw_r1 : ∀ q ∈ lw_privs_1, lw_okq q := List.forall_mem_cons.mpr ⟨lw_p0, List.forall_mem_cons.mpr ⟨lw_p1, List.forall_mem_cons.mpr ⟨lw_p2, List.forall_mem_cons.mpr ⟨lw_p3, List.forall_mem_cons.mpr ⟨lw_p4, List.forall_mem_cons.mpr ⟨lw_p5, List.forall_mem_cons.mpr ⟨lw_p6, List.forall_mem_cons.mpr ⟨lw_p7, List.forall_mem_cons.mpr ⟨lw_p8, List.forall_mem_cons.mpr ⟨lw_p9, List.forall_mem_cons.mpr ⟨lw_p10, List.forall_mem_cons.mpr ⟨lw_p11, List.forall_mem_cons.mpr ⟨lw_p12, List.forall_mem_cons.mpr ⟨lw_p13, List.forall_mem_cons.mpr ⟨lw_p14, List.forall_mem_cons.mpr ⟨lw_p15, fun _ h => absurd h List.not_mem_nil⟩⟩⟩⟩⟩⟩⟩⟩⟩⟩⟩⟩⟩⟩⟩⟩
theorem lw_p16 : lw_okq (⟨"NotedVolume", "isOrLiesIn", "(II)Z"⟩, 7) := ⟨⟨by decide +kernel, by decide +kernel⟩, List.mem_of_getElem? (i := 34) (by decide +kernel), List.mem_of_getElem? (i := 879) (by decide +kernel), List.mem_of_getElem? (i := 880) (by decide +kernel)⟩
theorem lw_p17 : lw_okq (⟨"NotedVolume", "subscriberAt", "(I)LNotedVolume$Subscriber;"⟩, 7) := ⟨⟨by decide +kernel, by decide +kernel⟩, List.mem_of_getElem? (i := 34) (by decide +kernel), List.mem_of_getElem? (i := 949) (by decide +kernel), List.mem_of_getElem? (i := 950) (by decide +kernel)⟩
theorem lw_p18 : lw_okq (⟨"NotedVolume$Subscriber", "copyPage", "(LNotedVolume$FileTable;)V"⟩, 6) := ⟨⟨by decide +kernel, by decide +kernel⟩, List.mem_of_getElem? (i := 109) (by decide +kernel), List.mem_of_getElem? (i := 1027) (by decide +kernel), List.mem_of_getElem? (i := 1028) (by decide +kernel)⟩
theorem lw_p19 : lw_okq (⟨"NotedVolume$Subscriber", "copyAsItIs", "(ILNotedVolume$FileTable;)V"⟩, 6) := ⟨⟨by decide +kernel, by decide +kernel⟩, List.mem_of_getElem? (i := 109) (by decide +kernel), List.mem_of_getElem? (i := 1037) (by decide +kernel), List.mem_of_getElem? (i := 1038) (by decide +kernel)⟩
theorem lw_p20 : lw_okq (⟨"NotedVolume$Subscriber", "copyNote", "(LNotedVolume$Note;LNotedVolume$FileTable;)V"⟩, 6) := ⟨⟨by decide +kernel, by decide +kernel⟩, List.mem_of_getElem? (i := 109) (by decide +kernel), List.mem_of_getElem? (i := 1045) (by decide +kernel), List.mem_of_getElem? (i := 1046) (by decide +kernel)⟩
theorem lw_p21 : lw_okq (⟨"NotedVolumeModel", "placeOf", "(I)I"⟩, 28) := ⟨⟨by decide +kernel, by decide +kernel⟩, List.mem_of_getElem? (i := 1081) (by decide +kernel), List.mem_of_getElem? (i := 1181) (by decide +kernel), List.mem_of_getElem? (i := 1182) (by decide +kernel)⟩
theorem lw_p22 : lw_okq (⟨"NotedVolumeModel", "isFolder", "(I)Z"⟩, 28) := ⟨⟨by decide +kernel, by decide +kernel⟩, List.mem_of_getElem? (i := 1081) (by decide +kernel), List.mem_of_getElem? (i := 1185) (by decide +kernel), List.mem_of_getElem? (i := 1186) (by decide +kernel)⟩
theorem lw_p23 : lw_okq (⟨"NotedVolumeModel", "named", "(II)I"⟩, 28) := ⟨⟨by decide +kernel, by decide +kernel⟩, List.mem_of_getElem? (i := 1081) (by decide +kernel), List.mem_of_getElem? (i := 1189) (by decide +kernel), List.mem_of_getElem? (i := 1190) (by decide +kernel)⟩
theorem lw_p24 : lw_okq (⟨"NotedVolumeModel", "refused", "(ZZZZ)Z"⟩, 28) := ⟨⟨by decide +kernel, by decide +kernel⟩, List.mem_of_getElem? (i := 1081) (by decide +kernel), List.mem_of_getElem? (i := 1193) (by decide +kernel), List.mem_of_getElem? (i := 1194) (by decide +kernel)⟩
theorem lw_p25 : lw_okq (⟨"NotedVolumeModel", "opens", "(I)Z"⟩, 28) := ⟨⟨by decide +kernel, by decide +kernel⟩, List.mem_of_getElem? (i := 1081) (by decide +kernel), List.mem_of_getElem? (i := 1197) (by decide +kernel), List.mem_of_getElem? (i := 1198) (by decide +kernel)⟩
theorem lw_p26 : lw_okq (⟨"NotedVolumeModel", "gatheringOf", "(I)I"⟩, 28) := ⟨⟨by decide +kernel, by decide +kernel⟩, List.mem_of_getElem? (i := 1081) (by decide +kernel), List.mem_of_getElem? (i := 1201) (by decide +kernel), List.mem_of_getElem? (i := 1202) (by decide +kernel)⟩
theorem lw_p27 : lw_okq (⟨"NotedVolumeModel", "closeGathering", "(I)Z"⟩, 28) := ⟨⟨by decide +kernel, by decide +kernel⟩, List.mem_of_getElem? (i := 1081) (by decide +kernel), List.mem_of_getElem? (i := 1205) (by decide +kernel), List.mem_of_getElem? (i := 1206) (by decide +kernel)⟩
theorem lw_p28 : lw_okq (⟨"NotedVolumeModel", "writes", "()Z"⟩, 28) := ⟨⟨by decide +kernel, by decide +kernel⟩, List.mem_of_getElem? (i := 1081) (by decide +kernel), List.mem_of_getElem? (i := 1209) (by decide +kernel), List.mem_of_getElem? (i := 1210) (by decide +kernel)⟩
theorem lw_p29 : lw_okq (⟨"NotedVolumeModel", "noteClosing", "(II)V"⟩, 28) := ⟨⟨by decide +kernel, by decide +kernel⟩, List.mem_of_getElem? (i := 1081) (by decide +kernel), List.mem_of_getElem? (i := 1213) (by decide +kernel), List.mem_of_getElem? (i := 1214) (by decide +kernel)⟩
theorem lw_p30 : lw_okq (⟨"NotedVolumeModel", "writeNote", "(IIIIII)V"⟩, 28) := ⟨⟨by decide +kernel, by decide +kernel⟩, List.mem_of_getElem? (i := 1081) (by decide +kernel), List.mem_of_getElem? (i := 1217) (by decide +kernel), List.mem_of_getElem? (i := 1218) (by decide +kernel)⟩
theorem lw_p31 : lw_okq (⟨"NotedVolumeModel", "dropGathering", "(I)V"⟩, 28) := ⟨⟨by decide +kernel, by decide +kernel⟩, List.mem_of_getElem? (i := 1081) (by decide +kernel), List.mem_of_getElem? (i := 1221) (by decide +kernel), List.mem_of_getElem? (i := 1222) (by decide +kernel)⟩
def lw_privs_2 : List (MethodName × Nat) := [(⟨"NotedVolume", "isOrLiesIn", "(II)Z"⟩, 7), (⟨"NotedVolume", "subscriberAt", "(I)LNotedVolume$Subscriber;"⟩, 7), (⟨"NotedVolume$Subscriber", "copyPage", "(LNotedVolume$FileTable;)V"⟩, 6), (⟨"NotedVolume$Subscriber", "copyAsItIs", "(ILNotedVolume$FileTable;)V"⟩, 6), (⟨"NotedVolume$Subscriber", "copyNote", "(LNotedVolume$Note;LNotedVolume$FileTable;)V"⟩, 6), (⟨"NotedVolumeModel", "placeOf", "(I)I"⟩, 28), (⟨"NotedVolumeModel", "isFolder", "(I)Z"⟩, 28), (⟨"NotedVolumeModel", "named", "(II)I"⟩, 28), (⟨"NotedVolumeModel", "refused", "(ZZZZ)Z"⟩, 28), (⟨"NotedVolumeModel", "opens", "(I)Z"⟩, 28), (⟨"NotedVolumeModel", "gatheringOf", "(I)I"⟩, 28), (⟨"NotedVolumeModel", "closeGathering", "(I)Z"⟩, 28), (⟨"NotedVolumeModel", "writes", "()Z"⟩, 28), (⟨"NotedVolumeModel", "noteClosing", "(II)V"⟩, 28), (⟨"NotedVolumeModel", "writeNote", "(IIIIII)V"⟩, 28), (⟨"NotedVolumeModel", "dropGathering", "(I)V"⟩, 28)]
theorem lw_r2 : ∀ q ∈ lw_privs_2, lw_okq q := List.forall_mem_cons.mpr ⟨lw_p16, List.forall_mem_cons.mpr ⟨lw_p17, List.forall_mem_cons.mpr ⟨lw_p18, List.forall_mem_cons.mpr ⟨lw_p19, List.forall_mem_cons.mpr ⟨lw_p20, List.forall_mem_cons.mpr ⟨lw_p21, List.forall_mem_cons.mpr ⟨lw_p22, List.forall_mem_cons.mpr ⟨lw_p23, List.forall_mem_cons.mpr ⟨lw_p24, List.forall_mem_cons.mpr ⟨lw_p25, List.forall_mem_cons.mpr ⟨lw_p26, List.forall_mem_cons.mpr ⟨lw_p27, List.forall_mem_cons.mpr ⟨lw_p28, List.forall_mem_cons.mpr ⟨lw_p29, List.forall_mem_cons.mpr ⟨lw_p30, List.forall_mem_cons.mpr ⟨lw_p31, fun _ h => absurd h List.not_mem_nil⟩⟩⟩⟩⟩⟩⟩⟩⟩⟩⟩⟩⟩⟩⟩⟩
theorem lw_p32 : lw_okq (⟨"NotedVolumeModel", "noteChange", "(IIIIII)Z"⟩, 28) := ⟨⟨by decide +kernel, by decide +kernel⟩, List.mem_of_getElem? (i := 1081) (by decide +kernel), List.mem_of_getElem? (i := 1225) (by decide +kernel), List.mem_of_getElem? (i := 1226) (by decide +kernel)⟩
theorem lw_p33 : lw_okq (⟨"NotedVolumeModel", "isIn", "(II)Z"⟩, 28) := ⟨⟨by decide +kernel, by decide +kernel⟩, List.mem_of_getElem? (i := 1081) (by decide +kernel), List.mem_of_getElem? (i := 1237) (by decide +kernel), List.mem_of_getElem? (i := 1238) (by decide +kernel)⟩
theorem lw_p34 : lw_okq (⟨"NotedVolumeModel", "hasFiles", "(I)Z"⟩, 28) := ⟨⟨by decide +kernel, by decide +kernel⟩, List.mem_of_getElem? (i := 1081) (by decide +kernel), List.mem_of_getElem? (i := 1245) (by decide +kernel), List.mem_of_getElem? (i := 1246) (by decide +kernel)⟩
theorem lw_p35 : lw_okq (⟨"NotedVolumeModel", "tailNow", "()I"⟩, 28) := ⟨⟨by decide +kernel, by decide +kernel⟩, List.mem_of_getElem? (i := 1081) (by decide +kernel), List.mem_of_getElem? (i := 1273) (by decide +kernel), List.mem_of_getElem? (i := 1274) (by decide +kernel)⟩
theorem lw_p36 : lw_okq (⟨"NotedVolumeModel", "readBy", "(II)I"⟩, 28) := ⟨⟨by decide +kernel, by decide +kernel⟩, List.mem_of_getElem? (i := 1081) (by decide +kernel), List.mem_of_getElem? (i := 1300) (by decide +kernel), List.mem_of_getElem? (i := 1301) (by decide +kernel)⟩
theorem lw_p37 : lw_okq (⟨"NotedVolumeModel", "beginList", "(I)V"⟩, 28) := ⟨⟨by decide +kernel, by decide +kernel⟩, List.mem_of_getElem? (i := 1081) (by decide +kernel), List.mem_of_getElem? (i := 1308) (by decide +kernel), List.mem_of_getElem? (i := 1309) (by decide +kernel)⟩
theorem lw_p38 : lw_okq (⟨"NotedVolumeModel", "pageOf", "(I)I"⟩, 28) := ⟨⟨by decide +kernel, by decide +kernel⟩, List.mem_of_getElem? (i := 1081) (by decide +kernel), List.mem_of_getElem? (i := 1316) (by decide +kernel), List.mem_of_getElem? (i := 1317) (by decide +kernel)⟩
theorem lw_p39 : lw_okq (⟨"NotedVolumeModel", "placeAbove", "(I)I"⟩, 28) := ⟨⟨by decide +kernel, by decide +kernel⟩, List.mem_of_getElem? (i := 1081) (by decide +kernel), List.mem_of_getElem? (i := 1320) (by decide +kernel), List.mem_of_getElem? (i := 1321) (by decide +kernel)⟩
theorem lw_p40 : lw_okq (⟨"NotedVolumeModel", "act", "(I)Z"⟩, 28) := ⟨⟨by decide +kernel, by decide +kernel⟩, List.mem_of_getElem? (i := 1081) (by decide +kernel), List.mem_of_getElem? (i := 1332) (by decide +kernel), List.mem_of_getElem? (i := 1333) (by decide +kernel)⟩
theorem lw_p41 : lw_okq (⟨"NotedVolumeModel", "followPage", "(I)V"⟩, 28) := ⟨⟨by decide +kernel, by decide +kernel⟩, List.mem_of_getElem? (i := 1081) (by decide +kernel), List.mem_of_getElem? (i := 1336) (by decide +kernel), List.mem_of_getElem? (i := 1337) (by decide +kernel)⟩
theorem lw_p42 : lw_okq (⟨"NotedVolumeModel", "copyOut", "(II)V"⟩, 28) := ⟨⟨by decide +kernel, by decide +kernel⟩, List.mem_of_getElem? (i := 1081) (by decide +kernel), List.mem_of_getElem? (i := 1340) (by decide +kernel), List.mem_of_getElem? (i := 1341) (by decide +kernel)⟩
theorem lw_p43 : lw_okq (⟨"NotedVolumeModel", "copyNow", "(II)V"⟩, 28) := ⟨⟨by decide +kernel, by decide +kernel⟩, List.mem_of_getElem? (i := 1081) (by decide +kernel), List.mem_of_getElem? (i := 1344) (by decide +kernel), List.mem_of_getElem? (i := 1345) (by decide +kernel)⟩
theorem lw_p44 : lw_okq (⟨"NotedVolumeModel", "copyPlace", "(II)I"⟩, 28) := ⟨⟨by decide +kernel, by decide +kernel⟩, List.mem_of_getElem? (i := 1081) (by decide +kernel), List.mem_of_getElem? (i := 1348) (by decide +kernel), List.mem_of_getElem? (i := 1349) (by decide +kernel)⟩
theorem lw_p45 : lw_okq (⟨"NotedVolumeModel", "copyIn", "(IIIIII)V"⟩, 28) := ⟨⟨by decide +kernel, by decide +kernel⟩, List.mem_of_getElem? (i := 1081) (by decide +kernel), List.mem_of_getElem? (i := 1352) (by decide +kernel), List.mem_of_getElem? (i := 1353) (by decide +kernel)⟩
theorem lw_p46 : lw_okq (⟨"NotedVolumeModel", "followNote", "(II)V"⟩, 28) := ⟨⟨by decide +kernel, by decide +kernel⟩, List.mem_of_getElem? (i := 1081) (by decide +kernel), List.mem_of_getElem? (i := 1356) (by decide +kernel), List.mem_of_getElem? (i := 1357) (by decide +kernel)⟩
theorem lw_p47 : lw_okq (⟨"NotedVolumeModel", "latestOf", "(I)I"⟩, 28) := ⟨⟨by decide +kernel, by decide +kernel⟩, List.mem_of_getElem? (i := 1081) (by decide +kernel), List.mem_of_getElem? (i := 1376) (by decide +kernel), List.mem_of_getElem? (i := 1377) (by decide +kernel)⟩
def lw_privs_3 : List (MethodName × Nat) := [(⟨"NotedVolumeModel", "noteChange", "(IIIIII)Z"⟩, 28), (⟨"NotedVolumeModel", "isIn", "(II)Z"⟩, 28), (⟨"NotedVolumeModel", "hasFiles", "(I)Z"⟩, 28), (⟨"NotedVolumeModel", "tailNow", "()I"⟩, 28), (⟨"NotedVolumeModel", "readBy", "(II)I"⟩, 28), (⟨"NotedVolumeModel", "beginList", "(I)V"⟩, 28), (⟨"NotedVolumeModel", "pageOf", "(I)I"⟩, 28), (⟨"NotedVolumeModel", "placeAbove", "(I)I"⟩, 28), (⟨"NotedVolumeModel", "act", "(I)Z"⟩, 28), (⟨"NotedVolumeModel", "followPage", "(I)V"⟩, 28), (⟨"NotedVolumeModel", "copyOut", "(II)V"⟩, 28), (⟨"NotedVolumeModel", "copyNow", "(II)V"⟩, 28), (⟨"NotedVolumeModel", "copyPlace", "(II)I"⟩, 28), (⟨"NotedVolumeModel", "copyIn", "(IIIIII)V"⟩, 28), (⟨"NotedVolumeModel", "followNote", "(II)V"⟩, 28), (⟨"NotedVolumeModel", "latestOf", "(I)I"⟩, 28)]
theorem lw_r3 : ∀ q ∈ lw_privs_3, lw_okq q := List.forall_mem_cons.mpr ⟨lw_p32, List.forall_mem_cons.mpr ⟨lw_p33, List.forall_mem_cons.mpr ⟨lw_p34, List.forall_mem_cons.mpr ⟨lw_p35, List.forall_mem_cons.mpr ⟨lw_p36, List.forall_mem_cons.mpr ⟨lw_p37, List.forall_mem_cons.mpr ⟨lw_p38, List.forall_mem_cons.mpr ⟨lw_p39, List.forall_mem_cons.mpr ⟨lw_p40, List.forall_mem_cons.mpr ⟨lw_p41, List.forall_mem_cons.mpr ⟨lw_p42, List.forall_mem_cons.mpr ⟨lw_p43, List.forall_mem_cons.mpr ⟨lw_p44, List.forall_mem_cons.mpr ⟨lw_p45, List.forall_mem_cons.mpr ⟨lw_p46, List.forall_mem_cons.mpr ⟨lw_p47, fun _ h => absurd h List.not_mem_nil⟩⟩⟩⟩⟩⟩⟩⟩⟩⟩⟩⟩⟩⟩⟩⟩
theorem lw_p48 : lw_okq (⟨"NotedVolumeModel", "isFirst", "(I)Z"⟩, 28) := ⟨⟨by decide +kernel, by decide +kernel⟩, List.mem_of_getElem? (i := 1081) (by decide +kernel), List.mem_of_getElem? (i := 1380) (by decide +kernel), List.mem_of_getElem? (i := 1381) (by decide +kernel)⟩
def lw_privs_4 : List (MethodName × Nat) := [(⟨"NotedVolumeModel", "isFirst", "(I)Z"⟩, 28)]
theorem lw_r4 : ∀ q ∈ lw_privs_4, lw_okq q := List.forall_mem_cons.mpr ⟨lw_p48, fun _ h => absurd h List.not_mem_nil⟩
def lw_privs : List (MethodName × Nat) := lw_privs_1 ++ (lw_privs_2 ++ (lw_privs_3 ++ (lw_privs_4)))
def lw_tbl : List Cond := k2_sels lw_privs ++ tables_1
theorem lw_privs_ok : ∀ q ∈ lw_privs, lw_okq q := by
  show ∀ q ∈ lw_privs_1 ++ (lw_privs_2 ++ (lw_privs_3 ++ (lw_privs_4))), lw_okq q
  exact List.forall_mem_append.mpr ⟨lw_r1, List.forall_mem_append.mpr ⟨lw_r2, List.forall_mem_append.mpr ⟨lw_r3, lw_r4⟩⟩⟩
end
section
/-! the words that hold at every state of a walk; the classes; what else the claim gives -/
def xv_T : List Cond := lw_tbl.filter goodWord
theorem xv_in {w : Cond} (h : w ∈ lw_tbl) (hg : goodWord w = true) : w ∈ xv_T := List.mem_filter.mpr ⟨h, hg⟩
theorem xv_good : ∀ w ∈ xv_T, (w.onTables && w.keeps) = true ∨ ∃ ty, w = .arrayClass ty := fun w h => good_of_word (List.mem_filter.mp h).2
def tx_0 : u_T := fun k => match k with
  | 0 => ("NotedVolume", "files", "LNotedVolume$FileTable;", true)
  | 1 => ("NotedVolume", "ring", "LNotedVolume$Ring;", true)
  | 2 => ("NotedVolume", "gatherings", "LNotedVolume$Gatherings;", true)
  | 3 => ("NotedVolume", "subscribers", "[LNotedVolume$Subscriber;", true)
  | 4 => ("NotedVolume", "nextNumber", "I", false)
  | 5 => ("NotedVolume", "powered", "Z", false)
  | _ => ("NotedVolume", "writesLeft", "I", false)
def ty_0 : Nat → FieldType := fun k => match k with
  | 0 => .object "NotedVolume$FileTable"
  | 1 => .object "NotedVolume$Ring"
  | 2 => .object "NotedVolume$Gatherings"
  | 3 => .array (.object "NotedVolume$Subscriber")
  | 4 => .int
  | 5 => .boolean
  | _ => .int
def tx_1 : u_T := fun k => match k with
  | 0 => ("NotedVolume$Entry", "number", "I", true)
  | 1 => ("NotedVolume$Entry", "sort", "I", true)
  | 2 => ("NotedVolume$Entry", "parent", "I", true)
  | 3 => ("NotedVolume$Entry", "name", "I", true)
  | _ => ("NotedVolume$Entry", "mark", "I", true)
def ty_1 : Nat → FieldType := fun k => match k with
  | 0 => .int
  | 1 => .int
  | 2 => .int
  | 3 => .int
  | _ => .int
def tx_2 : u_T := fun k => match k with
  | 0 => ("NotedVolume$FileTable", "rows", "Ljava/util/ArrayList;", true)
  | _ => ("NotedVolume$FileTable", "most", "I", true)
def ty_2 : Nat → FieldType := fun k => match k with
  | 0 => .object "java/util/ArrayList"
  | _ => .int
def tx_3 : u_T := fun k => match k with
  | 0 => ("NotedVolume$Note", "entry", "LNotedVolume$Entry;", true)
  | _ => ("NotedVolume$Note", "reasons", "I", true)
def ty_3 : Nat → FieldType := fun k => match k with
  | 0 => .object "NotedVolume$Entry"
  | _ => .int
def tx_4 : u_T := fun k => match k with
  | 0 => ("NotedVolume$Ring", "cells", "[LNotedVolume$Note;", true)
  | _ => ("NotedVolume$Ring", "next", "I", false)
def ty_4 : Nat → FieldType := fun k => match k with
  | 0 => .array (.object "NotedVolume$Note")
  | _ => .int
def tx_5 : u_T := fun k => match k with
  | 0 => ("NotedVolume$Gathering", "file", "I", true)
  | _ => ("NotedVolume$Gathering", "reasons", "I", false)
def ty_5 : Nat → FieldType := fun k => match k with
  | 0 => .int
  | _ => .int
def tx_6 : u_T := fun k => match k with
  | _ => ("NotedVolume$Gatherings", "open", "Ljava/util/ArrayList;", true)
def ty_6 : Nat → FieldType := fun k => match k with
  | _ => .object "java/util/ArrayList"
def tx_7 : u_T := fun k => match k with
  | 0 => ("NotedVolume$Subscriber", "copy", "LNotedVolume$FileTable;", true)
  | 1 => ("NotedVolume$Subscriber", "pageNumbers", "[I", true)
  | 2 => ("NotedVolume$Subscriber", "cursor", "I", false)
  | 3 => ("NotedVolume$Subscriber", "mask", "I", false)
  | 4 => ("NotedVolume$Subscriber", "listing", "Z", false)
  | _ => ("NotedVolume$Subscriber", "greatestShown", "I", false)
def ty_7 : Nat → FieldType := fun k => match k with
  | 0 => .object "NotedVolume$FileTable"
  | 1 => .array .int
  | 2 => .int
  | 3 => .int
  | 4 => .boolean
  | _ => .int
def tx_8 : u_T := fun k => match k with
  | 0 => ("java/util/AbstractList", "modCount", "I", false)
  | 1 => ("java/util/ArrayList", "elementData", "[Ljava/lang/Object;", false)
  | _ => ("java/util/ArrayList", "size", "I", false)
def ty_8 : Nat → FieldType := fun k => match k with
  | 0 => .int
  | 1 => .array (.object "java/lang/Object")
  | _ => .int
def tx_9 : u_T := fun k => match k with
  | 0 => ("NotedVolumeModel", "thrown", "I", false)
  | 1 => ("NotedVolumeModel", "count", "I", false)
  | 2 => ("NotedVolumeModel", "files", "[I", true)
  | 3 => ("NotedVolumeModel", "sorts", "[I", true)
  | 4 => ("NotedVolumeModel", "parents", "[I", true)
  | 5 => ("NotedVolumeModel", "names", "[I", true)
  | 6 => ("NotedVolumeModel", "marks", "[I", true)
  | 7 => ("NotedVolumeModel", "latest", "I", false)
  | 8 => ("NotedVolumeModel", "head", "I", false)
  | 9 => ("NotedVolumeModel", "notes", "[I", true)
  | 10 => ("NotedVolumeModel", "gatherings", "I", false)
  | 11 => ("NotedVolumeModel", "gathered", "[I", true)
  | 12 => ("NotedVolumeModel", "reasons", "[I", true)
  | 13 => ("NotedVolumeModel", "off", "Z", false)
  | 14 => ("NotedVolumeModel", "left", "I", false)
  | 15 => ("NotedVolumeModel", "cursors", "[I", true)
  | 16 => ("NotedVolumeModel", "masks", "[I", true)
  | 17 => ("NotedVolumeModel", "lists", "[Z", true)
  | 18 => ("NotedVolumeModel", "lasts", "[I", true)
  | 19 => ("NotedVolumeModel", "pages", "[I", true)
  | 20 => ("NotedVolumeModel", "copies", "[I", true)
  | 21 => ("NotedVolumeModel", "copyFiles", "[I", true)
  | 22 => ("NotedVolumeModel", "copySorts", "[I", true)
  | 23 => ("NotedVolumeModel", "copyParents", "[I", true)
  | 24 => ("NotedVolumeModel", "copyNames", "[I", true)
  | 25 => ("NotedVolumeModel", "copyMarks", "[I", true)
  | 26 => ("NotedVolumeModel", "toClose", "[I", true)
  | _ => ("NotedVolumeModel", "closing", "[I", true)
def ty_9 : Nat → FieldType := fun k => match k with
  | 0 => .int
  | 1 => .int
  | 2 => .array .int
  | 3 => .array .int
  | 4 => .array .int
  | 5 => .array .int
  | 6 => .array .int
  | 7 => .int
  | 8 => .int
  | 9 => .array .int
  | 10 => .int
  | 11 => .array .int
  | 12 => .array .int
  | 13 => .boolean
  | 14 => .int
  | 15 => .array .int
  | 16 => .array .int
  | 17 => .array .boolean
  | 18 => .array .int
  | 19 => .array .int
  | 20 => .array .int
  | 21 => .array .int
  | 22 => .array .int
  | 23 => .array .int
  | 24 => .array .int
  | 25 => .array .int
  | 26 => .array .int
  | _ => .array .int
def tx_10 : u_T := fun _ => ("", "", "", false)
def ty_10 : Nat → FieldType := fun _ => .int
def tx_11 : u_T := fun _ => ("", "", "", false)
def ty_11 : Nat → FieldType := fun _ => .int
def tx_12 : u_T := fun _ => ("", "", "", false)
def ty_12 : Nat → FieldType := fun _ => .int
def tx_13 : u_T := fun _ => ("", "", "", false)
def ty_13 : Nat → FieldType := fun _ => .int
def tx_14 : u_T := fun _ => ("", "", "", false)
def ty_14 : Nat → FieldType := fun _ => .int
def xv_c : List vw_C := [("NotedVolume", tx_0, 7), ("NotedVolume$Entry", tx_1, 5), ("NotedVolume$FileTable", tx_2, 2), ("NotedVolume$Note", tx_3, 2), ("NotedVolume$Ring", tx_4, 2), ("NotedVolume$Gathering", tx_5, 2), ("NotedVolume$Gatherings", tx_6, 1), ("NotedVolume$Subscriber", tx_7, 6), ("java/util/ArrayList", tx_8, 3), ("NotedVolumeModel", tx_9, 28), ("java/lang/IllegalStateException", tx_10, 0), ("java/lang/IllegalArgumentException", tx_11, 0), ("java/util/NoSuchElementException", tx_12, 0), ("java/lang/UnsupportedOperationException", tx_13, 0), ("java/lang/IndexOutOfBoundsException", tx_14, 0)]
def xv_y : List FieldType := [.int, .long, .boolean, .object "java/lang/Object", .object "NotedVolume$Note", .object "NotedVolume$Subscriber"]
def xv_S : List (String × Nat × String) := [("NotedVolume", 241, "power is off"), ("NotedVolume", 59, "20 files live"), ("NotedVolume", 243, "0 is no name"), ("NotedVolume", 254, "the file does not live"), ("NotedVolume", 250, "the parent is no folder"), ("NotedVolume", 252, "the folder has a file of this name"), ("NotedVolume", 95, "a folder has no content"), ("NotedVolume", 111, "a folder can't lie in itself"), ("NotedVolume", 120, "files lie in it"), ("NotedVolume", 135, "no gathering of it is open"), ("NotedVolume", 247, "there is no such what"), ("NotedVolume", 165, "the note is not kept"), ("NotedVolume", 256, "there is no such subscriber"), ("NotedVolume", 176, "the mask is not 0 .. 127"), ("NotedVolume", 200, "no listing goes on"), ("NotedVolume", 210, "the number of actions is not 0 .. 40"), ("NotedVolume", 222, "it is not in the copy"), ("NotedVolume", 228, "less than NONE")]
def xv_U : List Cond := [Cond.arrayOver (.object "NotedVolume$Note"), Cond.arrayOver (.object "NotedVolume$Subscriber"), Cond.arrayOver (.object "java/lang/Object"), Cond.castable "java/lang/IllegalStateException" "java/lang/IllegalStateException", Cond.castable "java/lang/IllegalArgumentException" "java/lang/IllegalArgumentException", Cond.castable "java/util/NoSuchElementException" "java/util/NoSuchElementException", Cond.castable "java/lang/UnsupportedOperationException" "java/lang/UnsupportedOperationException", Cond.castable "java/lang/IndexOutOfBoundsException" "java/lang/IndexOutOfBoundsException", Cond.castable "NotedVolume$Entry" "NotedVolume$Entry", Cond.castable "NotedVolume$Gathering" "NotedVolume$Gathering", Cond.castable "NotedVolume" "java/lang/Object", Cond.castable "NotedVolume$FileTable" "java/lang/Object", Cond.castable "NotedVolume$Ring" "java/lang/Object", Cond.castable "NotedVolume$Gatherings" "java/lang/Object", Cond.castable "NotedVolume$Subscriber" "java/lang/Object", Cond.castable "NotedVolumeModel" "java/lang/Object", Cond.castable "NotedVolume$Entry" "java/lang/Object", Cond.castable "NotedVolume$Note" "java/lang/Object", Cond.castable "NotedVolume$Gathering" "java/lang/Object", Cond.not (Cond.castable "java/lang/IllegalStateException" "java/lang/IllegalArgumentException"), Cond.not (Cond.castable "java/lang/IllegalStateException" "java/util/NoSuchElementException"), Cond.not (Cond.castable "java/lang/IllegalStateException" "java/lang/UnsupportedOperationException"), Cond.not (Cond.castable "java/lang/IllegalStateException" "java/lang/IndexOutOfBoundsException"), Cond.not (Cond.castable "java/lang/IllegalArgumentException" "java/lang/IllegalStateException"), Cond.not (Cond.castable "java/lang/IllegalArgumentException" "java/util/NoSuchElementException"), Cond.not (Cond.castable "java/lang/IllegalArgumentException" "java/lang/UnsupportedOperationException"), Cond.not (Cond.castable "java/lang/IllegalArgumentException" "java/lang/IndexOutOfBoundsException"), Cond.not (Cond.castable "java/util/NoSuchElementException" "java/lang/IllegalStateException"), Cond.not (Cond.castable "java/util/NoSuchElementException" "java/lang/IllegalArgumentException"), Cond.not (Cond.castable "java/util/NoSuchElementException" "java/lang/UnsupportedOperationException"), Cond.not (Cond.castable "java/util/NoSuchElementException" "java/lang/IndexOutOfBoundsException"), Cond.not (Cond.castable "java/lang/UnsupportedOperationException" "java/lang/IllegalStateException"), Cond.not (Cond.castable "java/lang/UnsupportedOperationException" "java/lang/IllegalArgumentException"), Cond.not (Cond.castable "java/lang/UnsupportedOperationException" "java/util/NoSuchElementException"), Cond.not (Cond.castable "java/lang/UnsupportedOperationException" "java/lang/IndexOutOfBoundsException"), Cond.not (Cond.castable "java/lang/IndexOutOfBoundsException" "java/lang/IllegalStateException"), Cond.not (Cond.castable "java/lang/IndexOutOfBoundsException" "java/lang/IllegalArgumentException"), Cond.not (Cond.castable "java/lang/IndexOutOfBoundsException" "java/util/NoSuchElementException"), Cond.not (Cond.castable "java/lang/IndexOutOfBoundsException" "java/lang/UnsupportedOperationException")]
def xv_cz : Cond → Bool
  | .castable _ _ => true
  | .not (.castable _ _) => true
  | .arrayOver (.object _) => true
  | _ => false
theorem xv_U_cz : ∀ w ∈ xv_U, xv_cz w = true := by decide +kernel
theorem xv_moved {w : Cond} (hw : xv_cz w = true) {u U : State} (hvm : u.vm.Alike U.vm) (h : w.before #[] u = true) : w.before #[] U = true := by
  match w, hw with
  | .castable a b, _ => exact va_tabs rfl (rfl : (u.setVm U.vm).vm = U.vm) (by rw [Cond.castable_setVm hvm]; exact h)
  | .not (.castable a b), _ => exact Cond.castAtom_setVm hvm (.not (.castable a b)) rfl h
  | .arrayOver (.object C), _ => exact va_AO.moved hvm h
end
section
/-! A layer over W: the heap as a function of addresses; one region [B, ..) that is the claim's own; budgets of cells and slots; a method may return or throw. -/
abbrev xa_D : Type := va_G × (Nat → ClassId)
abbrev xa_E : Type := (Nat × vp_A) ⊕ (Nat × List Value)
abbrev xa_H : Type := Nat → Option xa_E
abbrev xa_M : Type := MethodName × ByteArray × Nat × Option FieldType × List (Nat × Nat × Nat × Nat)
/-- the launch; class numbers; where the own region begins; the address of the empty array that lists begin with -/
abbrev xa_G : Type := Launch × xa_D × Nat × Nat
def xa_at (D : xa_D) (a : Nat) (e : xa_E) (H : Heap) : Prop := match e with
  | .inl x => H[a]? = some (vp_cell (D.2 x.1) x.2)
  | .inr o => ∃ r : vw_C, xv_c[o.1]? = some r ∧ t_OB a (D.1.1 o.1) r.2.2 (D.1.2 o.1) H (vp_V o.2)
def xa_P (G : xa_G) (h : xa_H) (H : Heap) : Prop := (∀ (a : Nat) (e : xa_E), h a = some e → xa_at G.2.1 a e H) ∧ ∀ (q : Nat) (cell : Cell), G.2.2.1 ≤ q → H[q]? = some cell → cell.vm.isStatics = false
def xa_K (D : xa_D) (U : State) : Prop := (∀ (c : Nat) (q : vw_C), xv_c[c]? = some q → u_Kn U q.1 q.2.1 q.2.2 (D.1.1 c) (D.1.2 c)) ∧ ∀ (k : Nat) (ty : FieldType), xv_y[k]? = some ty → ArrOfT U (D.2 k) ty ∧ va_RA U (D.2 k) ty
theorem xa_K.moved {D : xa_D} {u U : State} (hvm : u.vm.Alike U.vm) (h : xa_K D u) : xa_K D U := ⟨fun c q hq => u_Kn_moved hvm (h.1 c q hq), fun k ty hk => ⟨arrOfT_moved hvm (h.2 k ty hk).1, (h.2 k ty hk).2.moved hvm⟩⟩
def xa_up (h : xa_H) (a : Nat) (e : xa_E) : xa_H := fun b => if b = a then some e else h b
theorem xa_up_eq (h : xa_H) (a : Nat) (e : xa_E) : xa_up h a e a = some e := by simp [xa_up]
theorem xa_up_ne (h : xa_H) {a b : Nat} (e : xa_E) (hn : b ≠ a) : xa_up h a e b = h b := by simp [xa_up, hn]
theorem xa_at.kept {D : xa_D} {a : Nat} {e : xa_E} {H H1 : Heap} (h : xa_at D a e H) (hq : H1[a]? = H[a]?) : xa_at D a e H1 := by
  cases e with
  | inl x => exact hq.trans h
  | inr o =>
    obtain ⟨r, h1, h2⟩ := h
    exact ⟨r, h1, h2.kept hq⟩
theorem xa_at.lt {D : xa_D} {a : Nat} {e : xa_E} {H : Heap} (h : xa_at D a e H) : a < H.size := by
  cases e with
  | inl x => exact (Array.getElem?_eq_some_iff.mp h).1
  | inr o =>
    obtain ⟨r, h1, cell, h2, -⟩ := h
    exact (Array.getElem?_eq_some_iff.mp h2).1
theorem xa_at.cell {D : xa_D} {a : Nat} {e : xa_E} {H : Heap} (h : xa_at D a e H) : ∃ cell : Cell, H[a]? = some cell ∧ cell.vm = .none := by
  cases e with
  | inl x =>
    obtain ⟨t, n, f | f | f | f | f⟩ := x <;> exact ⟨_, h, rfl⟩
  | inr o =>
    obtain ⟨r, h1, cell, h2, h3, h4, -⟩ := h
    exact ⟨cell, h2, h4⟩
theorem xa_P.lt {G : xa_G} {h : xa_H} {H : Heap} (hP : xa_P G h H) {a : Nat} {e : xa_E} (ha : h a = some e) : a < H.size := (hP.1 a e ha).lt
theorem xa_P.put {G : xa_G} {h : xa_H} {H H1 : Heap} (hP : xa_P G h H) {a : Nat} {e : xa_E} (he : xa_at G.2.1 a e H1) (oq : ∀ q : Nat, q ≠ a → H1[q]? = H[q]?) : xa_P G (xa_up h a e) H1 := by
  refine ⟨?_, ?_⟩
  · intro b e' hb
    by_cases hba : b = a
    · subst hba
      rw [xa_up_eq] at hb
      cases hb
      exact he
    · rw [xa_up_ne h e hba] at hb
      exact (hP.1 b e' hb).kept (oq b hba)
  · intro q cell hq hc
    by_cases hqa : q = a
    · subst hqa
      obtain ⟨cell', g1, g2⟩ := he.cell
      cases hc.symm.trans g1
      rw [g2]
      rfl
    · rw [oq q hqa] at hc
      exact hP.2 q cell hq hc
theorem xa_P.new {G : xa_G} {h : xa_H} {H H1 : Heap} (hP : xa_P G h H) {e : xa_E} (he : xa_at G.2.1 H.size e H1) (oq : ∀ q : Nat, q < H.size → H1[q]? = H[q]?) (hz : H1.size = H.size + 1) : xa_P G (xa_up h H.size e) H1 := by
  refine ⟨?_, ?_⟩
  · intro b e' hb
    by_cases hba : b = H.size
    · subst hba
      rw [xa_up_eq] at hb
      cases hb
      exact he
    · rw [xa_up_ne h e hba] at hb
      exact (hP.1 b e' hb).kept (oq b (hP.lt hb))
  · intro q cell hq hc
    by_cases hqa : q = H.size
    · subst hqa
      obtain ⟨cell', g1, g2⟩ := he.cell
      cases hc.symm.trans g1
      rw [g2]
      rfl
    · have hlt := (Array.getElem?_eq_some_iff.mp hc).1
      rw [oq q (by omega)] at hc
      exact hP.2 q cell hq hc
/-- locals by their place; values of one slot alone -/
def xa_L (ls : Array Slot) (n : Nat) (L : List (Option Value)) : Prop := ls.size = n ∧ lv_wf ls ∧ ∀ (i : Nat) (v : Value), L[i]? = some (some v) → ls[i]? = some (.val v) ∧ v.category = 1
def xa_prs (L : List (Option Value)) : List (Nat × Value) := (List.range L.length).filterMap (fun i => match L[i]? with
  | some (some v) => some (i, v)
  | _ => none)
theorem xa_prs_mem {L : List (Option Value)} {i : Nat} {v : Value} : (i, v) ∈ xa_prs L ↔ L[i]? = some (some v) := by
  unfold xa_prs
  rw [List.mem_filterMap]
  constructor
  · rintro ⟨j, -, hj⟩
    split at hj
    · rename_i w hw
      cases hj
      exact hw
    · cases hj
  · intro h
    refine ⟨i, List.mem_range.mpr (List.getElem?_eq_some_iff.mp h).1, ?_⟩
    rw [h]
theorem xa_L.has {ls : Array Slot} {n : Nat} {L : List (Option Value)} (h : xa_L ls n L) : lv_has ls n (xa_prs L) := ⟨h.1, h.2.1, fun q hq => (h.2.2 q.1 q.2 (xa_prs_mem.mp hq)).1⟩
theorem xa_L.at {ls : Array Slot} {n : Nat} {L : List (Option Value)} (h : xa_L ls n L) {i : Nat} {v : Value} (hi : L[i]? = some (some v)) : ls[i]? = some (.val v) := (h.2.2 i v hi).1
theorem xa_L.st {ls' : Array Slot} {n : Nat} {L : List (Option Value)} {ls : Array Slot} (h : xa_L ls n L) {i : Nat} {v : Value} (hc : v.category = 1) (h' : lv_has ls' n ((i, v) :: (xa_prs L).filter (fun q => !(q.1 == i) && !(q.1 + 1 == i && q.2.category == 2)))) : xa_L ls' n (L.set i (some v)) := by
  refine ⟨h'.1, h'.2.1, fun j w hj => ?_⟩
  by_cases hji : j = i
  · subst hji
    have hlt : j < L.length := by
      have := (List.getElem?_eq_some_iff.mp hj).1
      simpa using this
    rw [List.getElem?_set_self hlt] at hj
    cases hj
    exact ⟨h'.2.2 (j, v) List.mem_cons_self, hc⟩
  · rw [List.getElem?_set_ne (fun e => hji e.symm)] at hj
    have hw := h.2.2 j w hj
    refine ⟨h'.2.2 (j, w) (List.mem_cons_of_mem _ (List.mem_filter.mpr ⟨xa_prs_mem.mpr hj, ?_⟩)), hw.2⟩
    have h1 : (j == i) = false := by simpa using hji
    have h2 : (w.category == 2) = false := by rw [hw.2]; rfl
    simp [h1, h2]
theorem xa_args_mem : ∀ (as : List Value) (k : Nat), (∀ v ∈ as, v.category = 1) → ∀ (i : Nat) (v : Value), as[i]? = some v → (k + i, v) ∈ lv_args k as
  | [], _, _, i, v, h => by simp at h
  | a :: as, k, hc, i, v, h => by
    unfold lv_args
    have ha : a.category = 1 := hc a List.mem_cons_self
    rw [if_neg (by omega)]
    cases i with
    | zero =>
      simp at h
      subst h
      exact List.mem_cons_self
    | succ i =>
      simp at h
      have := xa_args_mem as (k + 1) (fun v hv => hc v (List.mem_cons_of_mem _ hv)) i v h
      rw [show k + (i + 1) = k + 1 + i by omega]
      exact List.mem_cons_of_mem _ this
theorem xa_sl_len : ∀ (as : List Value), (∀ v ∈ as, v.category = 1) → (lg_sl as).length = as.length
  | [], _ => rfl
  | a :: as, hc => by
    have ha : a.category = 1 := hc a List.mem_cons_self
    have ih := xa_sl_len as (fun v hv => hc v (List.mem_cons_of_mem _ hv))
    simp [lg_sl, ha] at ih ⊢
    omega
/-- the end of a walk -/
def xa_R (G : xa_G) (Q : Outcome → xa_H → Nat → Prop) (s : State) (o : Outcome) (t : State) : Prop := (∃ h, Q o h t.heap.size ∧ xa_P G h t.heap) ∧ va_F (fun q => G.2.2.1 ≤ q) s t
def xa_Q (G : xa_G) (s : State) (below : List Frame) (kc ks : Nat) (Q : Outcome → xa_H → Nat → Prop) : State → Prop := fun t =>
  ∃ o, t.status = .running ∧ Ended t below o ∧ xa_R G Q s o t ∧ ∃ L, s.WarmedH t.vm ∧ s.sameButNew ({ t with vm := s.vm } : State) L kc ks ∧ ∀ q ∈ L, G.2.2.1 ≤ q.base
def xa_tb (t : Array ExceptionTableEntry) : List (Nat × Nat × Nat × Nat) := t.toList.map fun h => (h.startPc, h.endPc, h.handlerPc, h.catchType)
/-- what the claim takes as given beside the tables' words: flags, texts, the empty array -/
def xa_pr (G : xa_G) (U : State) : Prop := G.1.flags = pinnedFlags ++ [noTraceFlag] ∧ (∀ x ∈ xv_S, ∃ q, vk_R x.1 x.2.1 x.2.2 q U) ∧ va_Z "java/util/ArrayList" "DEFAULTCAPACITY_EMPTY_ELEMENTDATA" "[Ljava/lang/Object;" (.ref G.2.2.2) (fun q => G.2.2.1 ≤ q) U U.heap ∧ (∀ w ∈ xv_U, w.before #[] U = true) ∧ (∃ v : Value, v.isRef = true ∧ va_Z "java/lang/Throwable" "UNASSIGNED_STACK" "[Ljava/lang/StackTraceElement;" v (fun q => G.2.2.1 ≤ q) U U.heap) ∧ ∃ v : Value, v.isRef = true ∧ va_Z "java/lang/Throwable" "SUPPRESSED_SENTINEL" "Ljava/util/List;" v (fun q => G.2.2.1 ≤ q) U U.heap
theorem xa_pr.to {G : xa_G} {s U : State} (h : xa_pr G s) (hW : s.WarmedH U.vm) (hq : ∀ a : Nat, a < s.heap.size → ¬ G.2.2.1 ≤ a → U.heap[a]? = s.heap[a]?) : xa_pr G U := by
  obtain ⟨h1, h2, h3, h4, ⟨v5, e5, h5⟩, v6, e6, h6⟩ := h
  refine ⟨h1, fun x hx => ?_, va_Z.moved hW.alike (h3.kept hq), fun w hw => xv_moved (xv_U_cz w hw) hW.alike (h4 w hw), ⟨v5, e5, va_Z.moved hW.alike (h5.kept hq)⟩, v6, e6, va_Z.moved hW.alike (h6.kept hq)⟩
  obtain ⟨q, hq⟩ := h2 x hx
  exact ⟨q, hq.warm hW⟩
theorem xa_pr.same {G : xa_G} {u U : State} (hvm : U.vm = u.vm) (hh : U.heap = u.heap) (h : xa_pr G u) : xa_pr G U := by
  obtain ⟨h1, h2, h3, h4, ⟨v5, e5, h5⟩, v6, e6, h6⟩ := h
  have hal : u.vm.Alike U.vm := by rw [hvm]; exact Vm.Alike.refl u.vm
  refine ⟨h1, fun x hx => ?_, ?_, fun w hw => xv_moved (xv_U_cz w hw) hal (h4 w hw), ⟨v5, e5, ?_⟩, v6, e6, ?_⟩
  · obtain ⟨q, hq⟩ := h2 x hx
    exact ⟨q, vk_R.same hvm hq⟩
  · rw [hh]; exact va_Z.moved hal h3
  · rw [hh]; exact va_Z.moved hal h5
  · rw [hh]; exact va_Z.moved hal h6
theorem xa_pr_calling {G : xa_G} {U : State} {g : JFrame} {mk : MethodId} {a : Array Value} (h : xa_pr G U) : xa_pr G (U.calling g mk a) := xa_pr.same (u := U) (U := U.calling g mk a) rfl rfl h
/-- what holds through a method's whole walk -/
def xa_C (G : xa_G) (M : xa_M) (dp : Nat) (p : Program) (e : Env) (R : Room) (s : State) (m : MethodId) (args : Array Value) (meth : Method) (c : Code) : Prop :=
  p.tables.exec = Jvm.exec ∧ c.code = M.2.1 ∧ c.maxLocals = M.2.2.1 ∧ s.vm.findClass M.1.cls = some m.cls ∧ (∀ w ∈ xv_T, w.before args s = true) ∧ meth.sig.returnType = M.2.2.2.1 ∧ meth.locks = false ∧ meth.name = M.1.name ∧
  xa_tb c.exceptionTable = M.2.2.2.2 ∧ xa_K G.2.1 s ∧ dp ≤ R.frames ∧ 128 * dp ≤ R.locals ∧ G.2.2.1 ≤ s.heap.size ∧ xa_pr G s
def xa_W (G : xa_G) (M : xa_M) (dp kc ks pc : Nat) (L : List (Option Value)) (st : List Value) (h : xa_H) (sz : Nat) (Q : Outcome → xa_H → Nat → Prop) : Prop :=
  ∀ (p : Program) (e : Env) (R : Room) (s : State) (m : MethodId) (args : Array Value) (below : List Frame) (meth : Method) (c : Code) (H : Heap) (locs : List Loc) (cells slots : Nat) (ls : Array Slot) (kT nT : Nat),
    xa_C G M dp p e R s m args meth c → cells + kc ≤ kT → slots + ks ≤ nT → kT ≤ R.cells → nT ≤ R.slots → xa_L ls M.2.2.1 L → xa_P G h H → H.size = sz → va_S (fun q => G.2.2.1 ≤ q) s.heap H locs →
    W p G.1 e R s m args below meth c H locs cells slots (xa_Q G s below kT nT Q) (F0 m pc ls st)
theorem xa_Wmono {p : Program} {l : Launch} {e : Env} {R : Room} {s : State} {m : MethodId} {args : Array Value} {below : List Frame} {meth : Method} {c : Code} {H : Heap} {locs : List Loc} {cells slots : Nat} {Q Q' : State → Prop} {g : JFrame} (h : ∀ t, Q t → Q' t) (k : W p l e R s m args below meth c H locs cells slots Q g) : W p l e R s m args below meth c H locs cells slots Q' g := by
  intro T hT X
  obtain ⟨t, a, b⟩ := k T hT X
  exact ⟨t, a, h t b⟩
end
section
/-! the rows of the layer: an instruction each -/
section XW
variable {G : xa_G} {M : xa_M} {dp kc ks pc : Nat} {L : List (Option Value)} {st : List Value} {h : xa_H} {sz : Nat} {Q : Outcome → xa_H → Nat → Prop}
/-- an instruction that leaves heap and locals -/
theorem xw_go {pc' : Nat} {st' : List Value} (f : ∀ (p : Program) (e : Env) (R : Room) (s : State) (m : MethodId) (args : Array Value) (below : List Frame) (meth : Method) (c : Code) (H : Heap) (locs : List Loc) (cells slots : Nat) (ls : Array Slot) (Q' : State → Prop), p.tables.exec = Jvm.exec → c.code = M.2.1 → xa_L ls M.2.2.1 L →
      W p G.1 e R s m args below meth c H locs cells slots Q' (F0 m pc' ls st') → W p G.1 e R s m args below meth c H locs cells slots Q' (F0 m pc ls st)) (k : xa_W G M dp kc ks pc' L st' h sz Q) : xa_W G M dp kc ks pc L st h sz Q := by
  intro p e R s m args below meth c H locs cells slots ls kT nT C h1 h2 h3 h4 hl hP hz hS
  exact f p e R s m args below meth c H locs cells slots ls _ C.1 C.2.1 hl (k p e R s m args below meth c H locs cells slots ls kT nT C h1 h2 h3 h4 hl hP hz hS)
theorem xw_iconst {n : Int} (v : Int32) (hd : decode M.2.1 pc = .ok (.iconst n, 1)) (hv : Int32.ofInt n = v) (k : xa_W G M dp kc ks (pc + 1) L (.int v :: st) h sz Q) : xa_W G M dp kc ks pc L st h sz Q :=
  xw_go (fun _ _ _ _ _ _ _ _ _ _ _ _ _ _ _ hx hb _ => lv_iconst hx hb hd hv) k
theorem xw_bipush {n : Int} (v : Int32) (hd : decode M.2.1 pc = .ok (.bipush n, 2)) (hv : (Int8.ofInt n).toInt32 = v) (k : xa_W G M dp kc ks (pc + 2) L (.int v :: st) h sz Q) : xa_W G M dp kc ks pc L st h sz Q :=
  xw_go (fun _ _ _ _ _ _ _ _ _ _ _ _ _ _ _ hx hb _ => lv_bipush hx hb hd hv) k
theorem xw_sipush {n : Int} (v : Int32) (hd : decode M.2.1 pc = .ok (.sipush n, 3)) (hv : (Int16.ofInt n).toInt32 = v) (k : xa_W G M dp kc ks (pc + 3) L (.int v :: st) h sz Q) : xa_W G M dp kc ks pc L st h sz Q :=
  xw_go (fun _ _ _ _ _ _ _ _ _ _ _ _ _ _ _ hx hb _ => lv_sipush hx hb hd hv) k
theorem xw_lconst {n : Fin 2} (v : Int64) (hd : decode M.2.1 pc = .ok (.lconst n, 1)) (hv : Int64.ofNat (n : Nat) = v) (k : xa_W G M dp kc ks (pc + 1) L (.long v :: st) h sz Q) : xa_W G M dp kc ks pc L st h sz Q :=
  xw_go (fun _ _ _ _ _ _ _ _ _ _ _ _ _ _ _ hx hb _ => lv_lconst hx hb hd hv) k
theorem xw_null (hd : decode M.2.1 pc = .ok (.aconst_null, 1)) (k : xa_W G M dp kc ks (pc + 1) L (.null :: st) h sz Q) : xa_W G M dp kc ks pc L st h sz Q :=
  xw_go (fun _ _ _ _ _ _ _ _ _ _ _ _ _ _ _ hx hb _ => lv_null hx hb hd) k
theorem xw_iload_n {i : Fin 4} {x : Int32} (hd : decode M.2.1 pc = .ok (.iload_n i, 1)) (hi : L[(i : Nat)]? = some (some (.int x))) (k : xa_W G M dp kc ks (pc + 1) L (.int x :: st) h sz Q) : xa_W G M dp kc ks pc L st h sz Q :=
  xw_go (fun _ _ _ _ _ _ _ _ _ _ _ _ _ _ _ hx hb hl => lv_iload_n hx hb hd rfl (hl.at hi)) k
theorem xw_iload {i : Nat} {x : Int32} (hd : decode M.2.1 pc = .ok (.iload i, 2)) (hi : L[i]? = some (some (.int x))) (k : xa_W G M dp kc ks (pc + 2) L (.int x :: st) h sz Q) : xa_W G M dp kc ks pc L st h sz Q :=
  xw_go (fun _ _ _ _ _ _ _ _ _ _ _ _ _ _ _ hx hb hl => lv_iload hx hb hd (hl.at hi)) k
theorem xw_aload_n {i : Fin 4} {r : Option Nat} (hd : decode M.2.1 pc = .ok (.aload_n i, 1)) (hi : L[(i : Nat)]? = some (some (va_rf r))) (k : xa_W G M dp kc ks (pc + 1) L (va_rf r :: st) h sz Q) : xa_W G M dp kc ks pc L st h sz Q := by
  cases r with
  | none => exact xw_go (fun _ _ _ _ _ _ _ _ _ _ _ _ _ _ _ hx hb hl => lv_aload_nN hx hb hd rfl (hl.at hi)) k
  | some a => exact xw_go (fun _ _ _ _ _ _ _ _ _ _ _ _ _ _ _ hx hb hl => lv_aload_n hx hb hd rfl (hl.at hi)) k
theorem xw_aload {i : Nat} {r : Option Nat} (hd : decode M.2.1 pc = .ok (.aload i, 2)) (hi : L[i]? = some (some (va_rf r))) (k : xa_W G M dp kc ks (pc + 2) L (va_rf r :: st) h sz Q) : xa_W G M dp kc ks pc L st h sz Q := by
  cases r with
  | none => exact xw_go (fun _ _ _ _ _ _ _ _ _ _ _ _ _ _ _ hx hb hl => lv_aloadN hx hb hd (hl.at hi)) k
  | some a => exact xw_go (fun _ _ _ _ _ _ _ _ _ _ _ _ _ _ _ hx hb hl => lv_aload hx hb hd (hl.at hi)) k
/-- an instruction that sets a local -/
theorem xw_goS {pc' : Nat} {st' : List Value} {i : Nat} {v : Value} (hv : v.category = 1) (f : ∀ (p : Program) (e : Env) (R : Room) (s : State) (m : MethodId) (args : Array Value) (below : List Frame) (meth : Method) (c : Code) (H : Heap) (locs : List Loc) (cells slots : Nat) (ls : Array Slot) (Q' : State → Prop), p.tables.exec = Jvm.exec → c.code = M.2.1 → xa_L ls M.2.2.1 L →
      (∀ ls' : Array Slot, lv_has ls' M.2.2.1 ((i, v) :: (xa_prs L).filter (fun q => !(q.1 == i) && !(q.1 + 1 == i && q.2.category == 2))) → W p G.1 e R s m args below meth c H locs cells slots Q' (F0 m pc' ls' st')) → W p G.1 e R s m args below meth c H locs cells slots Q' (F0 m pc ls st)) (k : xa_W G M dp kc ks pc' (L.set i (some v)) st' h sz Q) : xa_W G M dp kc ks pc L st h sz Q := by
  intro p e R s m args below meth c H locs cells slots ls kT nT C h1 h2 h3 h4 hl hP hz hS
  exact f p e R s m args below meth c H locs cells slots ls _ C.1 C.2.1 hl (fun ls' hl' => k p e R s m args below meth c H locs cells slots ls' kT nT C h1 h2 h3 h4 (hl.st hv hl') hP hz hS)
theorem xw_istore_n {i : Fin 4} {x : Int32} (hd : decode M.2.1 pc = .ok (.istore_n i, 1)) (hn : (i : Nat) < M.2.2.1) (k : xa_W G M dp kc ks (pc + 1) (L.set i (some (.int x))) st h sz Q) : xa_W G M dp kc ks pc L (.int x :: st) h sz Q :=
  xw_goS rfl (fun _ _ _ _ _ _ _ _ _ _ _ _ _ _ _ hx hb hl kk => lv_istore_n hx hb hd rfl hl.has hn rfl kk) k
theorem xw_istore {i : Nat} {x : Int32} (hd : decode M.2.1 pc = .ok (.istore i, 2)) (hn : i < M.2.2.1) (k : xa_W G M dp kc ks (pc + 2) (L.set i (some (.int x))) st h sz Q) : xa_W G M dp kc ks pc L (.int x :: st) h sz Q :=
  xw_goS rfl (fun _ _ _ _ _ _ _ _ _ _ _ _ _ _ _ hx hb hl kk => lv_istore hx hb hd hl.has hn rfl kk) k
theorem xw_astore_n {i : Fin 4} {r : Option Nat} (hd : decode M.2.1 pc = .ok (.astore_n i, 1)) (hn : (i : Nat) < M.2.2.1) (k : xa_W G M dp kc ks (pc + 1) (L.set i (some (va_rf r))) st h sz Q) : xa_W G M dp kc ks pc L (va_rf r :: st) h sz Q := by
  cases r with
  | none => exact xw_goS (v := .null) rfl (fun _ _ _ _ _ _ _ _ _ _ _ _ _ _ _ hx hb hl kk => lv_astore_nN hx hb hd rfl hl.has hn rfl kk) k
  | some a => exact xw_goS (v := .ref a) rfl (fun _ _ _ _ _ _ _ _ _ _ _ _ _ _ _ hx hb hl kk => lv_astore_n hx hb hd rfl hl.has hn rfl kk) k
theorem xw_astore {i : Nat} {r : Option Nat} (hd : decode M.2.1 pc = .ok (.astore i, 2)) (hn : i < M.2.2.1) (k : xa_W G M dp kc ks (pc + 2) (L.set i (some (va_rf r))) st h sz Q) : xa_W G M dp kc ks pc L (va_rf r :: st) h sz Q := by
  cases r with
  | none => exact xw_goS (v := .null) rfl (fun _ _ _ _ _ _ _ _ _ _ _ _ _ _ _ hx hb hl kk => lv_astoreN hx hb hd hl.has hn rfl kk) k
  | some a => exact xw_goS (v := .ref a) rfl (fun _ _ _ _ _ _ _ _ _ _ _ _ _ _ _ hx hb hl kk => lv_astore hx hb hd hl.has hn rfl kk) k
theorem xw_iinc {i : Nat} {n : Int} {x v : Int32} (hd : decode M.2.1 pc = .ok (.iinc i n, 3)) (hi : L[i]? = some (some (.int x))) (hv : x + Int32.ofInt n = v) (hn : i < M.2.2.1) (k : xa_W G M dp kc ks (pc + 3) (L.set i (some (.int v))) st h sz Q) : xa_W G M dp kc ks pc L st h sz Q :=
  xw_goS rfl (fun _ _ _ _ _ _ _ _ _ _ _ _ _ _ _ hx hb hl kk => by
    obtain ⟨j, hj⟩ := List.getElem?_of_mem (xa_prs_mem.mpr hi)
    exact lv_iinc hx hb hd hl.has hj hv hn rfl kk) k
theorem xw_iadd {x y : Int32} (hd : decode M.2.1 pc = .ok (.iadd, 1)) (k : xa_W G M dp kc ks (pc + 1) L (.int (x + y) :: st) h sz Q) : xa_W G M dp kc ks pc L (.int y :: .int x :: st) h sz Q :=
  xw_go (fun _ _ _ _ _ _ _ _ _ _ _ _ _ _ _ hx hb _ => lv_iadd hx hb hd) k
theorem xw_isub {x y : Int32} (hd : decode M.2.1 pc = .ok (.isub, 1)) (k : xa_W G M dp kc ks (pc + 1) L (.int (x - y) :: st) h sz Q) : xa_W G M dp kc ks pc L (.int y :: .int x :: st) h sz Q :=
  xw_go (fun _ _ _ _ _ _ _ _ _ _ _ _ _ _ _ hx hb _ => lv_isub hx hb hd) k
theorem xw_imul {x y : Int32} (hd : decode M.2.1 pc = .ok (.imul, 1)) (k : xa_W G M dp kc ks (pc + 1) L (.int (x * y) :: st) h sz Q) : xa_W G M dp kc ks pc L (.int y :: .int x :: st) h sz Q :=
  xw_go (fun _ _ _ _ _ _ _ _ _ _ _ _ _ _ _ hx hb _ => lv_imul hx hb hd) k
theorem xw_iand {x y : Int32} (hd : decode M.2.1 pc = .ok (.iand, 1)) (k : xa_W G M dp kc ks (pc + 1) L (.int (x &&& y) :: st) h sz Q) : xa_W G M dp kc ks pc L (.int y :: .int x :: st) h sz Q :=
  xw_go (fun _ _ _ _ _ _ _ _ _ _ _ _ _ _ _ hx hb _ => lv_iand hx hb hd) k
theorem xw_ior {x y : Int32} (hd : decode M.2.1 pc = .ok (.ior, 1)) (k : xa_W G M dp kc ks (pc + 1) L (.int (x ||| y) :: st) h sz Q) : xa_W G M dp kc ks pc L (.int y :: .int x :: st) h sz Q :=
  xw_go (fun _ _ _ _ _ _ _ _ _ _ _ _ _ _ _ hx hb _ => lv_ior hx hb hd) k
theorem xw_irem {x y : Int32} (hd : decode M.2.1 pc = .ok (.irem, 1)) (hy : ¬ y = 0) (k : xa_W G M dp kc ks (pc + 1) L (.int (x - x / y * y) :: st) h sz Q) : xa_W G M dp kc ks pc L (.int y :: .int x :: st) h sz Q :=
  xw_go (fun _ _ _ _ _ _ _ _ _ _ _ _ _ _ _ hx hb _ => lv_irem hx hb hd hy) k
theorem xw_i2l {x : Int32} (hd : decode M.2.1 pc = .ok (.i2l, 1)) (k : xa_W G M dp kc ks (pc + 1) L (.long x.toInt64 :: st) h sz Q) : xa_W G M dp kc ks pc L (.int x :: st) h sz Q :=
  xw_go (fun _ _ _ _ _ _ _ _ _ _ _ _ _ _ _ hx hb _ => lv_i2l hx hb hd rfl) k
theorem xw_lcmp {x y : Int64} (hd : decode M.2.1 pc = .ok (.lcmp, 1)) (k : xa_W G M dp kc ks (pc + 1) L (.int (lg_cmp x y) :: st) h sz Q) : xa_W G M dp kc ks pc L (.long y :: .long x :: st) h sz Q :=
  xw_go (fun _ _ _ _ _ _ _ _ _ _ _ _ _ _ _ hx hb _ => W.lcmp hx hb hd) k
theorem xw_dup {v : Value} (hd : decode M.2.1 pc = .ok (.dup, 1)) (hv : v.category = 1) (k : xa_W G M dp kc ks (pc + 1) L (v :: v :: st) h sz Q) : xa_W G M dp kc ks pc L (v :: st) h sz Q :=
  xw_go (fun _ _ _ _ _ _ _ _ _ _ _ _ _ _ _ hx hb _ => lv_dup hx hb hd hv) k
theorem xw_dup2 {v w : Value} (hd : decode M.2.1 pc = .ok (.dup2, 1)) (hv : v.category = 1) (hw : w.category = 1) (k : xa_W G M dp kc ks (pc + 1) L (v :: w :: v :: w :: st) h sz Q) : xa_W G M dp kc ks pc L (v :: w :: st) h sz Q :=
  xw_go (fun _ _ _ _ _ _ _ _ _ _ _ _ _ _ _ hx hb _ => lv_dup2_11 hx hb hd hv hw) k
theorem xw_dup_x1 {v w : Value} (hd : decode M.2.1 pc = .ok (.dup_x1, 1)) (hv : v.category = 1) (hw : w.category = 1) (k : xa_W G M dp kc ks (pc + 1) L (v :: w :: v :: st) h sz Q) : xa_W G M dp kc ks pc L (v :: w :: st) h sz Q :=
  xw_go (fun _ _ _ _ _ _ _ _ _ _ _ _ _ _ _ hx hb _ => lv_dup_x1 hx hb hd hv hw) k
theorem xw_pop {v : Value} (hd : decode M.2.1 pc = .ok (.pop, 1)) (hv : v.category = 1) (k : xa_W G M dp kc ks (pc + 1) L st h sz Q) : xa_W G M dp kc ks pc L (v :: st) h sz Q :=
  xw_go (fun _ _ _ _ _ _ _ _ _ _ _ _ _ _ _ hx hb _ => lv_pop hx hb hd hv) k
theorem xw_goto {off : Int} (tgt : Nat) (hd : decode M.2.1 pc = .ok (.goto off, 3)) (ht : (pc : Int) + off = (tgt : Int)) (k : xa_W G M dp kc ks tgt L st h sz Q) : xa_W G M dp kc ks pc L st h sz Q :=
  xw_go (fun _ _ _ _ _ _ _ _ _ _ _ _ _ _ _ hx hb _ => lv_goto hx hb hd ht) k
/-- two roads -/
theorem xw_two {c : Prop} {pa pb : Nat} {st' : List Value} (f : ∀ (p : Program) (e : Env) (R : Room) (s : State) (m : MethodId) (args : Array Value) (below : List Frame) (meth : Method) (c' : Code) (H : Heap) (locs : List Loc) (cells slots : Nat) (ls : Array Slot) (Q' : State → Prop), p.tables.exec = Jvm.exec → c'.code = M.2.1 →
      (c → W p G.1 e R s m args below meth c' H locs cells slots Q' (F0 m pa ls st')) → (¬ c → W p G.1 e R s m args below meth c' H locs cells slots Q' (F0 m pb ls st')) → W p G.1 e R s m args below meth c' H locs cells slots Q' (F0 m pc ls st)) (ka : c → xa_W G M dp kc ks pa L st' h sz Q) (kb : ¬ c → xa_W G M dp kc ks pb L st' h sz Q) : xa_W G M dp kc ks pc L st h sz Q := by
  intro p e R s m args below meth c' H locs cells slots ls kT nT C h1 h2 h3 h4 hl hP hz hS
  exact f p e R s m args below meth c' H locs cells slots ls _ C.1 C.2.1 (fun q => ka q p e R s m args below meth c' H locs cells slots ls kT nT C h1 h2 h3 h4 hl hP hz hS) (fun q => kb q p e R s m args below meth c' H locs cells slots ls kT nT C h1 h2 h3 h4 hl hP hz hS)
theorem xw_if_eq {x : Int32} {off : Int} (tgt : Nat) (hd : decode M.2.1 pc = .ok (.ifCond .eq off, 3)) (ht : (pc : Int) + off = (tgt : Int)) (ka : x = 0 → xa_W G M dp kc ks tgt L st h sz Q) (kb : ¬ x = 0 → xa_W G M dp kc ks (pc + 3) L st h sz Q) : xa_W G M dp kc ks pc L (.int x :: st) h sz Q :=
  xw_two (fun _ _ _ _ _ _ _ _ _ _ _ _ _ _ _ hx hb => lv_if_eq hx hb hd ht) ka kb
theorem xw_icmp_eq {x y : Int32} {off : Int} (tgt : Nat) (hd : decode M.2.1 pc = .ok (.if_icmp .eq off, 3)) (ht : (pc : Int) + off = (tgt : Int)) (ka : x = y → xa_W G M dp kc ks tgt L st h sz Q) (kb : ¬ x = y → xa_W G M dp kc ks (pc + 3) L st h sz Q) : xa_W G M dp kc ks pc L (.int y :: .int x :: st) h sz Q :=
  xw_two (fun _ _ _ _ _ _ _ _ _ _ _ _ _ _ _ hx hb => lv_icmp_eq hx hb hd ht) ka kb
theorem xw_if_lt {x : Int32} {off : Int} (tgt : Nat) (hd : decode M.2.1 pc = .ok (.ifCond .lt off, 3)) (ht : (pc : Int) + off = (tgt : Int)) (ka : x < 0 → xa_W G M dp kc ks tgt L st h sz Q) (kb : ¬ x < 0 → xa_W G M dp kc ks (pc + 3) L st h sz Q) : xa_W G M dp kc ks pc L (.int x :: st) h sz Q :=
  xw_two (fun _ _ _ _ _ _ _ _ _ _ _ _ _ _ _ hx hb => lv_if_lt hx hb hd ht) ka kb
theorem xw_icmp_lt {x y : Int32} {off : Int} (tgt : Nat) (hd : decode M.2.1 pc = .ok (.if_icmp .lt off, 3)) (ht : (pc : Int) + off = (tgt : Int)) (ka : x < y → xa_W G M dp kc ks tgt L st h sz Q) (kb : ¬ x < y → xa_W G M dp kc ks (pc + 3) L st h sz Q) : xa_W G M dp kc ks pc L (.int y :: .int x :: st) h sz Q :=
  xw_two (fun _ _ _ _ _ _ _ _ _ _ _ _ _ _ _ hx hb => lv_icmp_lt hx hb hd ht) ka kb
theorem xw_if_ge {x : Int32} {off : Int} (tgt : Nat) (hd : decode M.2.1 pc = .ok (.ifCond .ge off, 3)) (ht : (pc : Int) + off = (tgt : Int)) (ka : 0 ≤ x → xa_W G M dp kc ks tgt L st h sz Q) (kb : ¬ 0 ≤ x → xa_W G M dp kc ks (pc + 3) L st h sz Q) : xa_W G M dp kc ks pc L (.int x :: st) h sz Q :=
  xw_two (fun _ _ _ _ _ _ _ _ _ _ _ _ _ _ _ hx hb => lv_if_ge hx hb hd ht) ka kb
theorem xw_icmp_ge {x y : Int32} {off : Int} (tgt : Nat) (hd : decode M.2.1 pc = .ok (.if_icmp .ge off, 3)) (ht : (pc : Int) + off = (tgt : Int)) (ka : y ≤ x → xa_W G M dp kc ks tgt L st h sz Q) (kb : ¬ y ≤ x → xa_W G M dp kc ks (pc + 3) L st h sz Q) : xa_W G M dp kc ks pc L (.int y :: .int x :: st) h sz Q :=
  xw_two (fun _ _ _ _ _ _ _ _ _ _ _ _ _ _ _ hx hb => lv_icmp_ge hx hb hd ht) ka kb
theorem xw_if_gt {x : Int32} {off : Int} (tgt : Nat) (hd : decode M.2.1 pc = .ok (.ifCond .gt off, 3)) (ht : (pc : Int) + off = (tgt : Int)) (ka : 0 < x → xa_W G M dp kc ks tgt L st h sz Q) (kb : ¬ 0 < x → xa_W G M dp kc ks (pc + 3) L st h sz Q) : xa_W G M dp kc ks pc L (.int x :: st) h sz Q :=
  xw_two (fun _ _ _ _ _ _ _ _ _ _ _ _ _ _ _ hx hb => lv_if_gt hx hb hd ht) ka kb
theorem xw_icmp_gt {x y : Int32} {off : Int} (tgt : Nat) (hd : decode M.2.1 pc = .ok (.if_icmp .gt off, 3)) (ht : (pc : Int) + off = (tgt : Int)) (ka : y < x → xa_W G M dp kc ks tgt L st h sz Q) (kb : ¬ y < x → xa_W G M dp kc ks (pc + 3) L st h sz Q) : xa_W G M dp kc ks pc L (.int y :: .int x :: st) h sz Q :=
  xw_two (fun _ _ _ _ _ _ _ _ _ _ _ _ _ _ _ hx hb => lv_icmp_gt hx hb hd ht) ka kb
theorem xw_if_le {x : Int32} {off : Int} (tgt : Nat) (hd : decode M.2.1 pc = .ok (.ifCond .le off, 3)) (ht : (pc : Int) + off = (tgt : Int)) (ka : x ≤ 0 → xa_W G M dp kc ks tgt L st h sz Q) (kb : ¬ x ≤ 0 → xa_W G M dp kc ks (pc + 3) L st h sz Q) : xa_W G M dp kc ks pc L (.int x :: st) h sz Q :=
  xw_two (fun _ _ _ _ _ _ _ _ _ _ _ _ _ _ _ hx hb => lv_if_le hx hb hd ht) ka kb
theorem xw_icmp_le {x y : Int32} {off : Int} (tgt : Nat) (hd : decode M.2.1 pc = .ok (.if_icmp .le off, 3)) (ht : (pc : Int) + off = (tgt : Int)) (ka : x ≤ y → xa_W G M dp kc ks tgt L st h sz Q) (kb : ¬ x ≤ y → xa_W G M dp kc ks (pc + 3) L st h sz Q) : xa_W G M dp kc ks pc L (.int y :: .int x :: st) h sz Q :=
  xw_two (fun _ _ _ _ _ _ _ _ _ _ _ _ _ _ _ hx hb => lv_icmp_le hx hb hd ht) ka kb
theorem xw_if_ne {x : Int32} {off : Int} (tgt : Nat) (hd : decode M.2.1 pc = .ok (.ifCond .ne off, 3)) (ht : (pc : Int) + off = (tgt : Int)) (ka : ¬ x = 0 → xa_W G M dp kc ks tgt L st h sz Q) (kb : x = 0 → xa_W G M dp kc ks (pc + 3) L st h sz Q) : xa_W G M dp kc ks pc L (.int x :: st) h sz Q :=
  xw_two (c := ¬ x = 0) (fun _ _ _ _ _ _ _ _ _ _ _ _ _ _ _ hx hb a b => lv_if_ne hx hb hd ht a (fun q => b (fun r => r q))) ka (fun q => kb (Classical.not_not.mp q))
theorem xw_icmp_ne {x y : Int32} {off : Int} (tgt : Nat) (hd : decode M.2.1 pc = .ok (.if_icmp .ne off, 3)) (ht : (pc : Int) + off = (tgt : Int)) (ka : ¬ x = y → xa_W G M dp kc ks tgt L st h sz Q) (kb : x = y → xa_W G M dp kc ks (pc + 3) L st h sz Q) : xa_W G M dp kc ks pc L (.int y :: .int x :: st) h sz Q :=
  xw_two (c := ¬ x = y) (fun _ _ _ _ _ _ _ _ _ _ _ _ _ _ _ hx hb a b => lv_icmp_ne hx hb hd ht a (fun q => b (fun r => r q))) ka (fun q => kb (Classical.not_not.mp q))
theorem xw_ifnull {r : Option Nat} {off : Int} (tgt : Nat) (hd : decode M.2.1 pc = .ok (.ifnull off, 3)) (ht : (pc : Int) + off = (tgt : Int)) (ka : r = none → xa_W G M dp kc ks tgt L st h sz Q) (kb : ∀ a, r = some a → xa_W G M dp kc ks (pc + 3) L st h sz Q) : xa_W G M dp kc ks pc L (va_rf r :: st) h sz Q := by
  cases r with
  | none => exact xw_go (fun _ _ _ _ _ _ _ _ _ _ _ _ _ _ _ hx hb _ => lv_ifnullN hx hb hd ht) (ka rfl)
  | some a => exact xw_go (fun _ _ _ _ _ _ _ _ _ _ _ _ _ _ _ hx hb _ => lv_ifnull hx hb hd) (kb a rfl)
theorem xw_ifnonnull {r : Option Nat} {off : Int} (tgt : Nat) (hd : decode M.2.1 pc = .ok (.ifnonnull off, 3)) (ht : (pc : Int) + off = (tgt : Int)) (ka : ∀ a, r = some a → xa_W G M dp kc ks tgt L st h sz Q) (kb : r = none → xa_W G M dp kc ks (pc + 3) L st h sz Q) : xa_W G M dp kc ks pc L (va_rf r :: st) h sz Q := by
  cases r with
  | none => exact xw_go (fun _ _ _ _ _ _ _ _ _ _ _ _ _ _ _ hx hb _ => lv_ifnonnullN hx hb hd) (kb rfl)
  | some a => exact xw_go (fun _ _ _ _ _ _ _ _ _ _ _ _ _ _ _ hx hb _ => lv_ifnonnull hx hb hd ht) (ka a rfl)
theorem xw_acmp_eq {rx ry : Option Nat} {off : Int} (tgt : Nat) (hd : decode M.2.1 pc = .ok (.if_acmp .eq off, 3)) (ht : (pc : Int) + off = (tgt : Int)) (ka : rx = ry → xa_W G M dp kc ks tgt L st h sz Q) (kb : ¬ rx = ry → xa_W G M dp kc ks (pc + 3) L st h sz Q) : xa_W G M dp kc ks pc L (va_rf ry :: va_rf rx :: st) h sz Q :=
  xw_two (fun _ _ _ _ _ _ _ _ _ _ _ _ _ _ _ hx hb => lv_acmp_eq hx hb hd ht) ka kb
theorem xw_acmp_ne {rx ry : Option Nat} {off : Int} (tgt : Nat) (hd : decode M.2.1 pc = .ok (.if_acmp .ne off, 3)) (ht : (pc : Int) + off = (tgt : Int)) (ka : ¬ rx = ry → xa_W G M dp kc ks tgt L st h sz Q) (kb : rx = ry → xa_W G M dp kc ks (pc + 3) L st h sz Q) : xa_W G M dp kc ks pc L (va_rf ry :: va_rf rx :: st) h sz Q :=
  xw_two (c := ¬ rx = ry) (fun _ _ _ _ _ _ _ _ _ _ _ _ _ _ _ hx hb a b => lv_acmp_ne hx hb hd ht a (fun q => b (fun r => r q))) ka (fun q => kb (Classical.not_not.mp q))
theorem xw_lookup {dflt : Int} {ps : Array (Int × Int)} {len : Nat} {x : Int32} {off : Int} (tgt : Nat) (hd : decode M.2.1 pc = .ok (.lookupswitch dflt ps, len)) (hp : (ps.toList.zip (ps.toList.drop 1)).all (fun (a, next) => a.1 < next.1) = true) (ho : Op.lookupswitch.offset ps.toList dflt x.toInt = off) (ht : (pc : Int) + off = (tgt : Int)) (k : xa_W G M dp kc ks tgt L st h sz Q) : xa_W G M dp kc ks pc L (.int x :: st) h sz Q :=
  xw_go (fun _ _ _ _ _ _ _ _ _ _ _ _ _ _ _ hx hb _ => lv_lookup hx hb hd hp ho ht) k
theorem xw_tableOut {dflt lo hi : Int} {offs : Array Int} {len : Nat} {x : Int32} (tgt : Nat) (hd : decode M.2.1 pc = .ok (.tableswitch dflt lo hi offs, len)) (hx : x.toInt < lo ∨ hi < x.toInt) (ht : (pc : Int) + dflt = (tgt : Int)) (k : xa_W G M dp kc ks tgt L st h sz Q) : xa_W G M dp kc ks pc L (.int x :: st) h sz Q :=
  xw_go (fun _ _ _ _ _ _ _ _ _ _ _ _ _ _ _ hx' hb _ => lv_tableOut hx' hb hd hx ht) k
theorem xw_tableIn {dflt lo hi : Int} {offs : Array Int} {len : Nat} {x : Int32} {off : Int} (tgt : Nat) (hd : decode M.2.1 pc = .ok (.tableswitch dflt lo hi offs, len)) (h1 : ¬ x.toInt < lo) (h2 : ¬ hi < x.toInt) (ho : offs[(x.toInt - lo).toNat]? = some off) (ht : (pc : Int) + off = (tgt : Int)) (k : xa_W G M dp kc ks tgt L st h sz Q) : xa_W G M dp kc ks pc L (.int x :: st) h sz Q :=
  xw_go (fun _ _ _ _ _ _ _ _ _ _ _ _ _ _ _ hx hb _ => lv_tableIn hx hb hd h1 h2 ho ht) k
/-- roads that meet -/
theorem xw_dia {pj : Nat} {stj : List Value} {Lj : List (Option Value)} (v : Value) (main : xa_W G M dp kc ks pj Lj (v :: stj) h sz Q) (arms : (∀ w, w = v → xa_W G M dp kc ks pj Lj (w :: stj) h sz Q) → xa_W G M dp kc ks pc L st h sz Q) : xa_W G M dp kc ks pc L st h sz Q := arms (fun w hw => hw ▸ main)
/-- ends -/
theorem xw_ends {v : Option Value} (f : ∀ (p : Program) (e : Env) (R : Room) (s : State) (m : MethodId) (args : Array Value) (below : List Frame) (meth : Method) (c : Code) (H : Heap) (locs : List Loc) (cells slots : Nat) (ls : Array Slot) (Qc : Array Value → State → Outcome → State → Prop) (free : Addr → Prop), p.tables.exec = Jvm.exec → c.code = M.2.1 → meth.sig.returnType = M.2.2.2.1 → meth.locks = false →
      (∀ t : State, t.heap = H → s.WarmedH t.vm → Qc args s (.returned v) t) → (∀ q ∈ locs, free q.base) → W p G.1 e R s m args below meth c H locs cells slots (MQ below Qc args s cells slots free) (F0 m pc ls st)) (hq : Q (.returned v) h sz) : xa_W G M dp kc ks pc L st h sz Q := by
  intro p e R s m args below meth c H locs cells slots ls kT nT C h1 h2 h3 h4 hl hP hz hS
  obtain ⟨hx, hb, -, -, -, hr, hk, -⟩ := C
  refine xa_Wmono ?_ (f p e R s m args below meth c H locs cells slots ls (fun _ st' o t => xa_R G Q st' o t) (fun q => G.2.2.1 ≤ q) hx hb hr hk (fun t ht _ => ⟨⟨h, by rw [ht, hz]; exact hq, by rw [ht]; exact hP⟩, hS.F ht⟩) hS.2.2)
  rintro t ⟨o, a1, a2, a3, L', ⟨-, a4, a5⟩, a6⟩
  exact ⟨o, a1, a2, a3, L', a4, a5.mono (by omega) (by omega), a6⟩
theorem xw_iret {v : Int32} (hd : decode M.2.1 pc = .ok (.ireturn, 1)) (hr : M.2.2.2.1 = some .int) (hq : Q (.returned (some (.int v))) h sz) : xa_W G M dp kc ks pc L [.int v] h sz Q :=
  xw_ends (fun _ _ _ _ _ _ _ _ _ _ _ _ _ _ _ _ hx hb hr' hk a b => W.iret hx hb (hr'.trans hr) a b hd hk) hq
theorem xw_zret {v : Int32} (hd : decode M.2.1 pc = .ok (.ireturn, 1)) (hr : M.2.2.2.1 = some .boolean) (hn : narrow .boolean (.int v) = .int v) (hq : Q (.returned (some (.int v))) h sz) : xa_W G M dp kc ks pc L [.int v] h sz Q :=
  xw_ends (fun _ _ _ _ _ _ _ _ _ _ _ _ _ _ _ _ hx hb hr' hk a b => W.zret hx hb (hr'.trans hr) hn a b hd hk) hq
theorem xw_vret (hd : decode M.2.1 pc = .ok (.return_, 1)) (hr : M.2.2.2.1 = none) (hq : Q (.returned none) h sz) : xa_W G M dp kc ks pc L [] h sz Q :=
  xw_ends (fun _ _ _ _ _ _ _ _ _ _ _ _ _ _ _ _ hx hb hr' hk a b => W.vret hx hb (hr'.trans hr) a b hd hk) hq
theorem xw_aret {rt : FieldType} {r : Option Nat} (hd : decode M.2.1 pc = .ok (.areturn, 1)) (hr : M.2.2.2.1 = some rt) (hrt : (∃ n, rt = .object n) ∨ ∃ t, rt = .array t) (hq : Q (.returned (some (va_rf r))) h sz) : xa_W G M dp kc ks pc L [va_rf r] h sz Q :=
  xw_ends (fun _ _ _ _ _ _ _ _ _ _ _ _ _ _ _ _ hx hb hr' hk a b => W.aret hx hb (hr'.trans hr) hrt (by cases r with
    | none => exact Or.inl rfl
    | some x => exact Or.inr ⟨x, rfl⟩) a b hd hk) hq
/-- budgets -/
theorem xw_less {kc' ks' : Nat} (hc : kc' ≤ kc) (hs : ks' ≤ ks) (k : xa_W G M dp kc' ks' pc L st h sz Q) : xa_W G M dp kc ks pc L st h sz Q := by
  intro p e R s m args below meth c H locs cells slots ls kT nT C h1 h2 h3 h4 hl hP hz hS
  exact k p e R s m args below meth c H locs cells slots ls kT nT C (by omega) (by omega) h3 h4 hl hP hz hS
theorem xw_mono {Q' : Outcome → xa_H → Nat → Prop} (hQ : ∀ o h z, Q' o h z → Q o h z) (k : xa_W G M dp kc ks pc L st h sz Q') : xa_W G M dp kc ks pc L st h sz Q := by
  intro p e R s m args below meth c H locs cells slots ls kT nT C h1 h2 h3 h4 hl hP hz hS
  refine xa_Wmono ?_ (k p e R s m args below meth c H locs cells slots ls kT nT C h1 h2 h3 h4 hl hP hz hS)
  rintro t ⟨o, a1, a2, ⟨⟨h', a3, a4⟩, a5⟩, a6⟩
  exact ⟨o, a1, a2, ⟨⟨h', hQ _ _ _ a3, a4⟩, a5⟩, a6⟩
end XW
end
section
/-! fields, arrays, new cells -/
def xa_F (own : String) (index ci k : Nat) : Prop := ∃ (C : String) (T : u_T) (N : Nat) (ref : String), xv_c[ci]? = some (C, T, N) ∧ k < N ∧ (∀ w ∈ u_ws C T N, w ∈ xv_T) ∧ Cond.fieldLink own index ref (T k).2.1 (T k).2.2.1 ∈ xv_T ∧ (ref = (T k).1 ∨ Cond.sameField ref (T k).1 (T k).2.1 (T k).2.2.1 ∈ xv_T)
def xa_Z (ci k : Nat) (ty : FieldType) (fin : Bool) (own : String) : Prop := ∃ (C : String) (T : u_T) (N : Nat) (ty0 : Nat → FieldType), xv_c[ci]? = some (C, T, N) ∧ (∀ k, k < N → parseFieldDescriptor (T k).2.2.1 = some (ty0 k)) ∧ (∀ a, a < N → ∀ b, b < N → a ≠ b → (T a).2.1 ≠ (T b).2.1) ∧ ty0 k = ty ∧ (T k).2.2.2 = fin ∧ (fin = true → (T k).1 = own)
def xa_N (own : String) (index ci : Nat) (fs : List Value) : Prop := ∃ (C : String) (T : u_T) (N : Nat) (ty0 : Nat → FieldType), xv_c[ci]? = some (C, T, N) ∧ fs.length = N ∧ (∀ k, k < N → parseFieldDescriptor (T k).2.2.1 = some (ty0 k)) ∧ (∀ k, k < N → defaultValue (ty0 k) = vp_V fs k) ∧ (∀ w ∈ u_ws C T N, w ∈ xv_T) ∧ Cond.classLink own index C ∈ xv_T ∧ Cond.instantiable C N ∈ xv_T ∧ Cond.initialized C ∈ xv_T
section XH
variable {G : xa_G} {M : xa_M} {dp kc ks pc : Nat} {L : List (Option Value)} {st : List Value} {h : xa_H} {sz : Nat} {Q : Outcome → xa_H → Nat → Prop}
theorem xw_get {index ci k a : Nat} {fs : List Value} {v : Value} (hF : xa_F M.1.cls index ci k) (hd : decode M.2.1 pc = .ok (.getfield index, 3)) (ha : h a = some (.inr (ci, fs))) (hv : fs[k]? = some v) (kk : xa_W G M dp kc ks (pc + 3) L (v :: st) h sz Q) : xa_W G M dp kc ks pc L (.ref a :: st) h sz Q := by
  intro p e R s m args below meth c H locs cells slots ls kT nT C h1 h2 h3 h4 hl hP hz hS
  have C' := C
  obtain ⟨hx, hb, -, hown, hts, -, -, -, -, hK, -⟩ := C'
  obtain ⟨Cn, T, N, ref, hc, hk, hin, hlink, hsm⟩ := hF
  obtain ⟨r, g1, cell, q1, q2, q3, q4⟩ := hP.1 a _ ha
  have hr : r = (Cn, T, N) := Option.some.inj (g1.symm.trans hc)
  subst hr
  obtain ⟨hSl, hfc, kC, hkC, hkind⟩ := hK.1 ci _ hc
  obtain ⟨cf, kf, fi, f, hi, hsl⟩ := hSl k hk
  have hi' : s.fieldFound? ref (T k).2.1 (T k).2.2.1 = some (cf, kf, fi, f) := by
    rcases hsm with rfl | hsm
    · exact hi
    · exact u_same (hts _ hsm) _ hi
  refine W.getf hx hb hown (hts _ hlink) hi' (u_facts hfc hkC (u_lays hts hin hk) hi).1 q1 (by rw [q3]; exact fun h => by cases h) (v := v) ?_ rfl rfl hd (kk p e R s m args below meth c H locs cells slots ls kT nT C h1 h2 h3 h4 hl hP hz hS)
  rw [hsl, q4 k hk]
  simp [vp_V, hv]
theorem xw_put {index ci k a : Nat} {fs : List Value} {v : Value} {ty : FieldType} {fin : Bool} (hF : xa_F M.1.cls index ci k) (hZ : xa_Z ci k ty fin M.1.cls) (hfin : fin = false ∨ M.1.name = "<init>") (hd : decode M.2.1 pc = .ok (.putfield index, 3)) (ha : h a = some (.inr (ci, fs))) (hl0 : k < fs.length) (hB : G.2.2.1 ≤ a) (hn : narrow ty v = v) (hfit : fits ty v = true)
    (kk : xa_W G M dp kc ks (pc + 3) L st (xa_up h a (.inr (ci, fs.set k v))) sz Q) : xa_W G M dp kc ks pc L (v :: .ref a :: st) h sz Q := by
  intro p e R s m args below meth c H locs cells slots ls kT nT C h1 h2 h3 h4 hl hP hz hS
  have C' := C
  obtain ⟨hx, hb, -, hown, hts, -, -, hnm', -, hK, -⟩ := C'
  obtain ⟨Cn, T, N, ref, hc, hk, hin, hlink, hsm⟩ := hF
  obtain ⟨Cn2, T2, N2, ty0, hc2, hty, hnm, hte, hfi, hdecl⟩ := hZ
  have hcc : (Cn2, T2, N2) = (Cn, T, N) := Option.some.inj (hc2.symm.trans hc)
  cases hcc
  obtain ⟨r, g1, cell, q1, q2, q3, q4⟩ := hP.1 a _ ha
  have hr : r = (Cn, T, N) := Option.some.inj (g1.symm.trans hc)
  subst hr
  have hKn := hK.1 ci _ hc
  obtain ⟨hSl, hfc, kC, hkC, hkind⟩ := hK.1 ci _ hc
  have hap : ∀ x y, x < N → y < N → x ≠ y → (G.2.1.1.2 ci) x ≠ (G.2.1.1.2 ci) y := by
    intro x y hx' hy hne
    obtain ⟨_, _, _, fa, hia, ea⟩ := hSl x hx'
    obtain ⟨_, _, _, fb, hib, eb⟩ := hSl y hy
    rw [← ea, ← eb]
    refine u_apart (u_lays hts hin hx') (u_lays hts hin hy) hia hib ?_
    rw [(State.fieldFound?_type hia (hty x hx')).1, (State.fieldFound?_type hib (hty y hy)).1]
    exact hnm x hx' y hy hne
  obtain ⟨cf, kf, fi, f, hi, hsl⟩ := hSl k hk
  have hi' : s.fieldFound? ref (T k).2.1 (T k).2.2.1 = some (cf, kf, fi, f) := by
    rcases hsm with rfl | hsm
    · exact hi
    · exact u_same (hts _ hsm) _ hi
  have hd' : parseFieldDescriptor (T k).2.2.1 = some ty := by rw [hty k hk, hte]
  have hst := (u_facts hfc hkC (u_lays hts hin hk) hi).1
  have hlay := hts _ (hin _ (u_in_lay hk))
  unfold u_lay at hlay
  have fine : ∀ (H' : Heap), H'[a]? = some (cell.setSlot f.slot v) → H'.size = H.size → (∀ q, q ≠ a → H'[q]? = H[q]?) → W p G.1 e R s m args below meth c H' (locs ++ [⟨a, f.slot⟩]) cells slots (xa_Q G s below kT nT Q) (F0 m (pc + 3) ls st) := by
    intro H' e1 e2 e3
    rw [hsl] at e1 ⊢
    exact kk p e R s m args below meth c H' _ cells slots ls kT nT C h1 h2 h3 h4 hl (hP.put (e := .inr (ci, fs.set k v)) ⟨_, hc, t_OB.to (V := updV (vp_V fs) k v) ⟨_, e1, q2, q3, t_set q4 hap hk v⟩ (fun j _ => vp_updV_set hl0 v j)⟩ e3) (e2.trans hz) (hS.put e2 e3 hB)
  cases fin with
  | false =>
    rw [if_neg (by rw [hfi]; decide)] at hlay
    have h6 := u_store hfc hkC hkind hlay hi hd' hn hfit
    exact W.putK hx hb (f := f) ⟨hown, hts _ hlink, ⟨_, _, _, hi'⟩, hst⟩ (by rw [q2]; exact h6) q1 q3 (by rw [hsl]; exact k2_hasslot (q4 k hk)) rfl rfl hd fine
  | true =>
    rw [if_pos hfi] at hlay
    have hcf : m.cls = cf := by
      obtain ⟨_, _, c', _, _, _, -, -, hf', -, -, -, hown2, -⟩ := Cond.laysFinal_spec hlay
      have e1 : c' = cf := by have := hi.symm.trans hf'; simp at this; exact this.1.symm
      rw [hdecl rfl] at hown2
      rw [← e1]; exact Option.some.inj (hown.symm.trans hown2)
    have hin2 : meth.name = "<init>" := by
      rcases hfin with q | q
      · cases q
      · exact hnm'.trans q
    have h6 := u_fits hfc hkC hkind (Or.inr hlay) hi hd' hn hfit
    exact W.putFinK hx hb hown (hts _ hlink) hi' hst hcf hin2 (by rw [q2]; exact h6) q1 q3 (by rw [hsl]; exact k2_hasslot (q4 k hk)) rfl rfl hd fine
theorem xw_new {index ci : Nat} {fs : List Value} (hN : xa_N M.1.cls index ci fs) (hd : decode M.2.1 pc = .ok (.new index, 3)) (kk : xa_W G M dp kc ks (pc + 3) L (.ref sz :: st) (xa_up h sz (.inr (ci, fs))) (sz + 1) Q) : xa_W G M dp (kc + 1) (ks + fs.length) pc L st h sz Q := by
  intro p e R s m args below meth c H locs cells slots ls kT nT C h1 h2 h3 h4 hl hP hz hS
  have C' := C
  obtain ⟨hx, hb, -, hown, hts, -, -, -, -, hK, -, -, hBs, -⟩ := C'
  obtain ⟨Cn, T, N, ty0, hc, hlen, hty, hfs, hin, hcl, hins, hini⟩ := hN
  subst hz
  have hKn := hK.1 ci _ hc
  refine W.newcK hx hb hown (hts _ hcl) (hts _ hins) (hts _ hini) rfl hd (by omega) (by omega) hKn.2.1 rfl fun H1 kC hkC e1 z1 o1 => ?_
  refine kk p e R s m args below meth c H1 locs (cells + 1) (slots + N) ls kT nT C (by omega) (by omega) h3 h4 hl (hP.new (e := .inr (ci, fs)) ⟨_, hc, (u_born ty0 hts hin hKn hkC e1 hty).to hfs⟩ o1 z1) z1 ?_
  exact ⟨Nat.le_trans hS.1 (by omega), fun q g1 g2 => (o1 q (Nat.lt_of_lt_of_le g1 hS.1)).trans (hS.2.1 q g1 g2), hS.2.2⟩
theorem xw_iald {a n : Nat} {f : Nat → Int32} {i : Int32} (hd : decode M.2.1 pc = .ok (.iaload, 1)) (ha : h a = some (.inl (0, (n, .inl f)))) (hin : vp_in i n) (kk : xa_W G M dp kc ks (pc + 1) L (.int (f i.toNatClampNeg) :: st) h sz Q) : xa_W G M dp kc ks pc L (.int i :: .ref a :: st) h sz Q := by
  intro p e R s m args below meth c H locs cells slots ls kT nT C h1 h2 h3 h4 hl hP hz hS
  have hlt : i.toNatClampNeg < n := Nat.not_le.mp fun q => hin (Or.inr q)
  have hK := C.2.2.2.2.2.2.2.2.2.1
  exact W.iald (v := .int (f i.toNatClampNeg)) C.1 C.2.1 (hP.1 a _ ha) ((hK.2 0 _ rfl).1 n (fun j => .int (f j))) (fun q => by cases q) (by show ¬ (i < 0 ∨ (arrV _ _ _).slots.size ≤ _); rw [arrV_size]; exact hin) (by show (arrV _ _ _).slots[_]? = _; rw [arrV_read _ _ hlt]) rfl rfl hd (kk p e R s m args below meth c H locs cells slots ls kT nT C h1 h2 h3 h4 hl hP hz hS)
theorem xw_lald {a n : Nat} {f : Nat → Int64} {i : Int32} (hd : decode M.2.1 pc = .ok (.laload, 1)) (ha : h a = some (.inl (1, (n, .inr (.inl f))))) (hin : vp_in i n) (kk : xa_W G M dp kc ks (pc + 1) L (.long (f i.toNatClampNeg) :: st) h sz Q) : xa_W G M dp kc ks pc L (.int i :: .ref a :: st) h sz Q := by
  intro p e R s m args below meth c H locs cells slots ls kT nT C h1 h2 h3 h4 hl hP hz hS
  have hlt : i.toNatClampNeg < n := Nat.not_le.mp fun q => hin (Or.inr q)
  have hK := C.2.2.2.2.2.2.2.2.2.1
  exact W.lald (v := .long (f i.toNatClampNeg)) C.1 C.2.1 (hP.1 a _ ha) ((hK.2 1 _ rfl).1 n (fun j => .long (f j))) (fun q => by cases q) (by show ¬ (i < 0 ∨ (arrV _ _ _).slots.size ≤ _); rw [arrV_size]; exact hin) (by show (arrV _ _ _).slots[_]? = _; rw [arrV_read _ _ hlt]) rfl rfl hd (kk p e R s m args below meth c H locs cells slots ls kT nT C h1 h2 h3 h4 hl hP hz hS)
theorem xw_zald {a n : Nat} {f : Nat → Int32} {i : Int32} (hd : decode M.2.1 pc = .ok (.baload, 1)) (ha : h a = some (.inl (2, (n, .inl f)))) (hin : vp_in i n) (kk : xa_W G M dp kc ks (pc + 1) L (.int (f i.toNatClampNeg) :: st) h sz Q) : xa_W G M dp kc ks pc L (.int i :: .ref a :: st) h sz Q := by
  intro p e R s m args below meth c H locs cells slots ls kT nT C h1 h2 h3 h4 hl hP hz hS
  have hlt : i.toNatClampNeg < n := Nat.not_le.mp fun q => hin (Or.inr q)
  have hK := C.2.2.2.2.2.2.2.2.2.1
  exact W.zald (v := .int (f i.toNatClampNeg)) C.1 C.2.1 (hP.1 a _ ha) ((hK.2 2 _ rfl).1 n (fun j => .int (f j))) (fun q => by cases q) (by show ¬ (i < 0 ∨ (arrV _ _ _).slots.size ≤ _); rw [arrV_size]; exact hin) (by show (arrV _ _ _).slots[_]? = _; rw [arrV_read _ _ hlt]) rfl rfl hd (kk p e R s m args below meth c H locs cells slots ls kT nT C h1 h2 h3 h4 hl hP hz hS)
theorem xw_aald {a n t : Nat} {E : String} {f : Nat → Option Nat} {i : Int32} (ht : xv_y[t]? = some (.object E)) (hd : decode M.2.1 pc = .ok (.aaload, 1)) (ha : h a = some (.inl (t, (n, .inr (.inr (.inr (.inr f))))))) (hin : vp_in i n) (kk : xa_W G M dp kc ks (pc + 1) L (va_rf (f i.toNatClampNeg) :: st) h sz Q) : xa_W G M dp kc ks pc L (.int i :: .ref a :: st) h sz Q := by
  intro p e R s m args below meth c H locs cells slots ls kT nT C h1 h2 h3 h4 hl hP hz hS
  have hlt : i.toNatClampNeg < n := Nat.not_le.mp fun q => hin (Or.inr q)
  have hK := C.2.2.2.2.2.2.2.2.2.1
  exact W.aald (v := va_rf (f i.toNatClampNeg)) (ty := .object E) C.1 C.2.1 (hP.1 a _ ha) ((hK.2 t _ ht).1 n (fun j => va_rf (f j))) rfl (fun q => by cases q) (by show ¬ (i < 0 ∨ (arrV _ _ _).slots.size ≤ _); rw [arrV_size]; exact hin) (by show (arrV _ _ _).slots[_]? = _; rw [arrV_read _ _ hlt]) rfl rfl hd (kk p e R s m args below meth c H locs cells slots ls kT nT C h1 h2 h3 h4 hl hP hz hS)
theorem xw_alen {a t : Nat} {ty : FieldType} {x : vp_A} (ht : xv_y[t]? = some ty) (hd : decode M.2.1 pc = .ok (.arraylength, 1)) (ha : h a = some (.inl (t, x))) (kk : xa_W G M dp kc ks (pc + 1) L (.int (nI x.1) :: st) h sz Q) : xa_W G M dp kc ks pc L (.ref a :: st) h sz Q := by
  intro p e R s m args below meth c H locs cells slots ls kT nT C h1 h2 h3 h4 hl hP hz hS
  have hK := C.2.2.2.2.2.2.2.2.2.1
  have k9 := kk p e R s m args below meth c H locs cells slots ls kT nT C h1 h2 h3 h4 hl hP hz hS
  obtain ⟨n, f | f | f | f | f⟩ := x
  · exact W.alen (n := Int32.ofNat n) C.1 C.2.1 (hP.1 a _ ha) ((hK.2 t _ ht).1 n (fun j => .int (f j))) (by rw [vp_cell_i, arrV_size] <;> rfl) rfl rfl hd k9
  · exact W.alen (n := Int32.ofNat n) C.1 C.2.1 (hP.1 a _ ha) ((hK.2 t _ ht).1 n (fun j => .long (f j))) (by rw [vp_cell_l, arrV_size] <;> rfl) rfl rfl hd k9
  · exact W.alen (n := Int32.ofNat n) C.1 C.2.1 (hP.1 a _ ha) ((hK.2 t _ ht).1 n (fun j => .float (f j))) (by rw [vp_cell_f, arrV_size] <;> rfl) rfl rfl hd k9
  · exact W.alen (n := Int32.ofNat n) C.1 C.2.1 (hP.1 a _ ha) ((hK.2 t _ ht).1 n (fun j => .double (f j))) (by rw [vp_cell_d, arrV_size] <;> rfl) rfl rfl hd k9
  · exact W.alen (n := Int32.ofNat n) C.1 C.2.1 (hP.1 a _ ha) ((hK.2 t _ ht).1 n (fun j => va_rf (f j))) (by rw [vp_cell_q, arrV_size] <;> rfl) rfl rfl hd k9
theorem xw_iast {a n : Nat} {f : Nat → Int32} {i x : Int32} (hd : decode M.2.1 pc = .ok (.iastore, 1)) (ha : h a = some (.inl (0, (n, .inl f)))) (hin : vp_in i n) (hB : G.2.2.1 ≤ a) (kk : xa_W G M dp kc ks (pc + 1) L st (xa_up h a (.inl (0, (n, .inl (upd f i.toNatClampNeg x))))) sz Q) : xa_W G M dp kc ks pc L (.int x :: .int i :: .ref a :: st) h sz Q := by
  intro p e R s m args below meth c H locs cells slots ls kT nT C h1 h2 h3 h4 hl hP hz hS
  have hK := C.2.2.2.2.2.2.2.2.2.1
  refine W.iast C.1 C.2.1 (hP.1 a _ ha) ((hK.2 0 _ rfl).1 n (fun j => .int (f j))) (fun q => by cases q) (by show ¬ (i < 0 ∨ (arrV _ _ _).slots.size ≤ _); rw [arrV_size]; exact hin) rfl rfl hd fun H1 e1 z oq => ?_
  refine kk p e R s m args below meth c H1 _ cells slots ls kT nT C h1 h2 h3 h4 hl (hP.put ?_ oq) (z.trans hz) (hS.put z oq hB)
  show H1[a]? = some (vp_cell _ _)
  rw [e1]
  show some ((vp_cell _ (n, .inl f)).setSlot _ _) = _
  rw [vp_cell_i, vp_cell_i, arrV_store]
  congr 2
  funext q
  by_cases hq : q = i.toNatClampNeg
  · subst hq
    simp [updV, upd]
  · simp [updV, upd, hq]
theorem xw_last {a n : Nat} {f : Nat → Int64} {i : Int32} {x : Int64} (hd : decode M.2.1 pc = .ok (.lastore, 1)) (ha : h a = some (.inl (1, (n, .inr (.inl f))))) (hin : vp_in i n) (hB : G.2.2.1 ≤ a) (kk : xa_W G M dp kc ks (pc + 1) L st (xa_up h a (.inl (1, (n, .inr (.inl (vp_updL f i.toNatClampNeg x)))))) sz Q) : xa_W G M dp kc ks pc L (.long x :: .int i :: .ref a :: st) h sz Q := by
  intro p e R s m args below meth c H locs cells slots ls kT nT C h1 h2 h3 h4 hl hP hz hS
  have hK := C.2.2.2.2.2.2.2.2.2.1
  refine W.last C.1 C.2.1 (hP.1 a _ ha) ((hK.2 1 _ rfl).1 n (fun j => .long (f j))) (fun q => by cases q) (by show ¬ (i < 0 ∨ (arrV _ _ _).slots.size ≤ _); rw [arrV_size]; exact hin) rfl rfl hd fun H1 e1 z oq => ?_
  refine kk p e R s m args below meth c H1 _ cells slots ls kT nT C h1 h2 h3 h4 hl (hP.put ?_ oq) (z.trans hz) (hS.put z oq hB)
  show H1[a]? = some (vp_cell _ _)
  rw [e1]
  show some ((vp_cell _ (n, .inr (.inl f))).setSlot _ _) = _
  rw [vp_cell_l, vp_cell_l, arrV_store]
  congr 2
  funext q
  by_cases hq : q = i.toNatClampNeg
  · subst hq
    simp [updV, vp_updL]
  · simp [updV, vp_updL, hq]
theorem xw_zast {a n : Nat} {f : Nat → Int32} {i x : Int32} (hd : decode M.2.1 pc = .ok (.bastore, 1)) (ha : h a = some (.inl (2, (n, .inl f)))) (hin : vp_in i n) (hB : G.2.2.1 ≤ a) (kk : xa_W G M dp kc ks (pc + 1) L st (xa_up h a (.inl (2, (n, .inl (upd f i.toNatClampNeg (vp_nar .boolean x)))))) sz Q) : xa_W G M dp kc ks pc L (.int x :: .int i :: .ref a :: st) h sz Q := by
  intro p e R s m args below meth c H locs cells slots ls kT nT C h1 h2 h3 h4 hl hP hz hS
  have hK := C.2.2.2.2.2.2.2.2.2.1
  refine W.zast C.1 C.2.1 (hP.1 a _ ha) ((hK.2 2 _ rfl).1 n (fun j => .int (f j))) (fun q => by cases q) (by show ¬ (i < 0 ∨ (arrV _ _ _).slots.size ≤ _); rw [arrV_size]; exact hin) rfl rfl hd fun H1 e1 z oq => ?_
  refine kk p e R s m args below meth c H1 _ cells slots ls kT nT C h1 h2 h3 h4 hl (hP.put ?_ oq) (z.trans hz) (hS.put z oq hB)
  show H1[a]? = some (vp_cell _ _)
  rw [e1]
  show some ((vp_cell _ (n, .inl f)).setSlot _ _) = _
  rw [vp_cell_i, vp_cell_i, arrV_store]
  congr 2
  funext q
  by_cases hq : q = i.toNatClampNeg
  · subst hq
    simp [updV, upd, vp_nar, narrow]
  · simp [updV, upd, hq]
def xa_A (ci : Nat) (E : String) : Prop := ∃ r : vw_C, xv_c[ci]? = some r ∧ (r.1 = E ∨ Cond.castable r.1 E ∈ xv_U)
theorem xa_asg {D : xa_D} {s : State} {ci : Nat} {E : String} (hK : xa_K D s) (hts : ∀ w ∈ xv_U, w.before #[] s = true) (hA : xa_A ci E) {comp : ClassId} (hE : s.vm.findClass E = some comp) : s.vm.assignable (D.1.1 ci) comp = true ∧ ∃ kC, s.vm.classes[D.1.1 ci]? = some kC := by
  obtain ⟨r, hc, hr⟩ := hA
  have hcl := (hK.1 ci r hc).2
  obtain ⟨kC, hkC, -⟩ := hcl.2
  refine ⟨?_, kC, hkC⟩
  rcases hr with hr | hr
  · rw [hr] at hcl
    cases hE.symm.trans hcl.1
    exact va_assign hcl
  · obtain ⟨c0, t0, f1, f2, f3⟩ := Cond.castable_spec (hts _ hr)
    cases hcl.1.symm.trans f1
    cases hE.symm.trans f2
    exact f3
theorem xw_aast {a n t v ci : Nat} {vs : List Value} {E : String} {f : Nat → Option Nat} {i : Int32} (ht : xv_y[t]? = some (.object E)) (hA : xa_A ci E) (hd : decode M.2.1 pc = .ok (.aastore, 1)) (ha : h a = some (.inl (t, (n, .inr (.inr (.inr (.inr f))))))) (hv : h v = some (.inr (ci, vs))) (hin : vp_in i n) (hB : G.2.2.1 ≤ a)
    (kk : xa_W G M dp kc ks (pc + 1) L st (xa_up h a (.inl (t, (n, .inr (.inr (.inr (.inr (va_up f i.toNatClampNeg (some v))))))))) sz Q) : xa_W G M dp kc ks pc L (.ref v :: .int i :: .ref a :: st) h sz Q := by
  intro p e R s m args below meth c H locs cells slots ls kT nT C h1 h2 h3 h4 hl hP hz hS
  have hK := C.2.2.2.2.2.2.2.2.2.1
  have hts := C.2.2.2.2.2.2.2.2.2.2.2.2.2.2.2.2.1
  have hlt : i.toNatClampNeg < n := Nat.not_le.mp fun q => hin (Or.inr q)
  have h0 : ¬ i < 0 := fun q => hin (Or.inl q)
  obtain ⟨r', hr', cellV, g1, g2, g3, -⟩ := hP.1 v _ hv
  obtain ⟨kA, comp, k1, k2, k3, -⟩ := (hK.2 t _ ht).2
  obtain ⟨kE, hkE, -⟩ := Vm.findClass_spec k3
  obtain ⟨hasg, kC, hkC⟩ := xa_asg hK hts hA k3
  refine W.aast C.1 C.2.1 (hP.1 a _ ha) (fun q h => by cases h) (fun h => by cases h) k1 k2 rfl hkE ⟨h0, by show _ < (arrV _ _ _).slots.size; rw [arrV_size]; exact hlt⟩ g1 (fun q h => by rw [g3] at h; cases h) (by rw [g2]; exact hkC) (by rw [g2]; exact hasg) rfl rfl hd fun H1 e1 z oq => ?_
  refine kk p e R s m args below meth c H1 _ cells slots ls kT nT C h1 h2 h3 h4 hl (hP.put ?_ oq) (z.trans hz) (hS.put z oq hB)
  show H1[a]? = some (vp_cell _ _)
  rw [e1]
  show some ((vp_cell _ (n, .inr (.inr (.inr (.inr f))))).setSlot _ _) = _
  rw [vp_cell_q, vp_cell_q, arrV_store]
  congr 2
  funext q
  by_cases hq : q = i.toNatClampNeg
  · subst hq
    simp [updV, va_up, va_rf]
  · simp [updV, va_up, hq]
theorem xw_aastN {a n t : Nat} {E : String} {f : Nat → Option Nat} {i : Int32} (ht : xv_y[t]? = some (.object E)) (hd : decode M.2.1 pc = .ok (.aastore, 1)) (ha : h a = some (.inl (t, (n, .inr (.inr (.inr (.inr f))))))) (hin : vp_in i n) (hB : G.2.2.1 ≤ a)
    (kk : xa_W G M dp kc ks (pc + 1) L st (xa_up h a (.inl (t, (n, .inr (.inr (.inr (.inr (va_up f i.toNatClampNeg none)))))))) sz Q) : xa_W G M dp kc ks pc L (.null :: .int i :: .ref a :: st) h sz Q := by
  intro p e R s m args below meth c H locs cells slots ls kT nT C h1 h2 h3 h4 hl hP hz hS
  have hK := C.2.2.2.2.2.2.2.2.2.1
  refine va_WaastN (C := E) C.1 C.2.1 (hP.1 a _ ha) ((hK.2 t _ ht).1 n (fun j => va_rf (f j))) (fun h => by cases h) (by show ¬ (i < 0 ∨ (arrV _ _ _).slots.size ≤ _); rw [arrV_size]; exact hin) rfl rfl hd fun H1 e1 z oq => ?_
  refine kk p e R s m args below meth c H1 _ cells slots ls kT nT C h1 h2 h3 h4 hl (hP.put ?_ oq) (z.trans hz) (hS.put z oq hB)
  show H1[a]? = some (vp_cell _ _)
  rw [e1]
  show some ((vp_cell _ (n, .inr (.inr (.inr (.inr f))))).setSlot _ _) = _
  rw [vp_cell_q, vp_cell_q, arrV_store]
  congr 2
  funext q
  by_cases hq : q = i.toNatClampNeg
  · subst hq
    simp [updV, va_up, va_rf]
  · simp [updV, va_up, hq]
theorem xw_newa {atype : ArrayType} {ty : FieldType} {t N : Nat} {n : Int32} {a0 : vp_A} (hty : newarray.typeOf atype = ty) (hpr : ∀ E, ty ≠ .object E) (ht : xv_y[t]? = some ty) (hw : Cond.arrayClass ty ∈ xv_T) (hd : decode M.2.1 pc = .ok (.newarray atype, 2)) (ha : ∀ cA : ClassId, vp_cell cA a0 = arrV cA N (fun _ => defaultValue ty)) (hn : ¬ n < 0) (hN : n.toNatClampNeg = N) (hby : N * componentBytes ty ≤ 536870912)
    (kk : xa_W G M dp kc ks (pc + 2) L (.ref sz :: st) (xa_up h sz (.inl (t, a0))) (sz + 1) Q) : xa_W G M dp (kc + 1) (ks + N) pc L (.int n :: st) h sz Q := by
  intro p e R s m args below meth c H locs cells slots ls kT nT C h1 h2 h3 h4 hl hP hz hS
  have hK := C.2.2.2.2.2.2.2.2.2.1
  have hts := C.2.2.2.2.1
  subst hz
  subst hty
  refine va_newaK C.1 C.2.1 (hts _ hw) rfl hd rfl hn hN hby (by omega) (by omega) rfl fun H1 cA e1 z1 o1 hAr hNm => ?_
  have hcA : cA = G.2.1.2 t := by
    have h9 := (hK.2 t _ ht).2
    have h8 : s.vm.findClass ("[" ++ (newarray.typeOf atype).toString) = some (G.2.1.2 t) := by cases atype <;> exact h9
    exact Option.some.inj (hNm.symm.trans h8)
  subst hcA
  refine kk p e R s m args below meth c H1 locs (cells + 1) (slots + N) ls kT nT C (by omega) (by omega) h3 h4 hl (hP.new (e := .inl (t, a0)) ?_ o1 z1) z1 ?_
  · show H1[H.size]? = some (vp_cell _ _)
    rw [ha]
    exact e1
  · exact ⟨Nat.le_trans hS.1 (by omega), fun q g1 g2 => (o1 q (Nat.lt_of_lt_of_le g1 hS.1)).trans (hS.2.1 q g1 g2), hS.2.2⟩
theorem xw_anew {t index N : Nat} {E : String} {n : Int32} (ht : xv_y[t]? = some (.object E)) (hw : Cond.classLink M.1.cls index E ∈ xv_T) (hov : Cond.arrayOver (.object E) ∈ xv_U) (hd : decode M.2.1 pc = .ok (.anewarray index, 3)) (hn : ¬ n < 0) (hN : n.toNatClampNeg = N) (hby : N * 4 ≤ 536870912)
    (kk : xa_W G M dp kc ks (pc + 3) L (.ref sz :: st) (xa_up h sz (.inl (t, (N, .inr (.inr (.inr (.inr (fun _ => none)))))))) (sz + 1) Q) : xa_W G M dp (kc + 1) (ks + N) pc L (.int n :: st) h sz Q := by
  intro p e R s m args below meth c H locs cells slots ls kT nT C h1 h2 h3 h4 hl hP hz hS
  have hK := C.2.2.2.2.2.2.2.2.2.1
  have hts := C.2.2.2.2.1
  have hown := C.2.2.2.1
  subst hz
  subst hN
  refine W.anew C.1 C.2.1 hown (hts _ hw) (va_AO.use (C.2.2.2.2.2.2.2.2.2.2.2.2.2.2.2.2.1 _ hov)) rfl hd rfl hn hby (by omega) (by omega) fun cA kA comp f1 f2 f3 f4 => ?_
  generalize hH1 : H.push ({ cls := cA, slots := Array.replicate n.toNatClampNeg .null, vm := .none } : Cell) = H1
  have z1 : H1.size = H.size + 1 := by rw [← hH1, Array.size_push]
  have e1 : H1[H.size]? = some (arrV cA n.toNatClampNeg (fun _ => .null)) := by rw [← hH1, Array.getElem?_push_size, ← arrV_new]
  have o1 : ∀ q : Nat, q < H.size → H1[q]? = H[q]? := fun q hq => by rw [← hH1, Array.getElem?_push, if_neg (Nat.ne_of_lt hq)]
  obtain ⟨_, _, _, _, _, k4⟩ := (hK.2 t _ ht).2
  have hcA : cA = G.2.1.2 t := Option.some.inj (f1.symm.trans k4)
  subst hcA
  refine kk p e R s m args below meth c H1 locs (cells + 1) (slots + n.toNatClampNeg) ls kT nT C (by omega) (by omega) h3 h4 hl (hP.new (e := .inl (t, (n.toNatClampNeg, .inr (.inr (.inr (.inr (fun _ => none))))))) ?_ o1 z1) z1 ?_
  · show H1[H.size]? = some (vp_cell _ _)
    rw [vp_cell_q]
    exact e1
  · exact ⟨Nat.le_trans hS.1 (by omega), fun q g1 g2 => (o1 q (Nat.lt_of_lt_of_le g1 hS.1)).trans (hS.2.1 q g1 g2), hS.2.2⟩
theorem xa_recv {G : xa_G} {s : State} {H : Heap} {h : xa_H} {a ci : Nat} {r : vw_C} {fs : List Value} (hK : xa_K G.2.1 s) (hP : xa_P G h H) (hc : xv_c[ci]? = some r) (ha : h a = some (.inr (ci, fs))) : ∃ cell : Cell, H[a]? = some cell ∧ cell.vm.isStatics = false ∧ s.vm.findClass r.1 = some cell.cls := by
  obtain ⟨r', _, cell, g1, g2, g3, -⟩ := hP.1 a _ ha
  exact ⟨cell, g1, by rw [g3]; rfl, by rw [g2]; exact (hK.1 ci r hc).2.1⟩
theorem xw_cast {index a ci : Nat} {fs : List Value} {E : String} (hw : Cond.classLink M.1.cls index E ∈ xv_T) (hc : ∃ T N, xv_c[ci]? = some (E, T, N)) (hd : decode M.2.1 pc = .ok (.checkcast index, 3)) (ha : h a = some (.inr (ci, fs))) (kk : xa_W G M dp kc ks (pc + 3) L (.ref a :: st) h sz Q) : xa_W G M dp kc ks pc L (.ref a :: st) h sz Q := by
  intro p e R s m args below meth c H locs cells slots ls kT nT C h1 h2 h3 h4 hl hP hz hS
  have hK := C.2.2.2.2.2.2.2.2.2.1
  obtain ⟨T, N, hc⟩ := hc
  exact va_castS C.1 C.2.1 C.2.2.2.1 (C.2.2.2.2.1 _ hw) (hK.1 ci _ hc).2 (xa_recv hK hP hc ha) hd (kk p e R s m args below meth c H locs cells slots ls kT nT C h1 h2 h3 h4 hl hP hz hS)
theorem xw_objInit {index a : Nat} (hw : Cond.methodLink M.1.cls index objectInit ∈ xv_T) (hi : Cond.instanceMethod objectInit ∈ xv_T) (hc : Cond.code objectInit ⟨#[0xb1]⟩ 1 none ∈ xv_T) (hdp : 1 ≤ dp) (hst : ((st.map fun v => v.category).sum) ≤ 8) (hd : decode M.2.1 pc = .ok (.invokespecial index, 3)) (kk : xa_W G M dp kc ks (pc + 3) L st h sz Q) : xa_W G M dp kc ks pc L (.ref a :: st) h sz Q := by
  intro p e R s m args below meth c H locs cells slots ls kT nT C h1 h2 h3 h4 hl hP hz hS
  have hts := C.2.2.2.2.1
  have hf := C.2.2.2.2.2.2.2.2.2.2.1
  have hlo := C.2.2.2.2.2.2.2.2.2.2.2.1
  refine W.objInit C.1 C.2.1 C.2.2.2.1 (hts _ hw) (hts _ hi) (hts _ hc) (g := F0 m pc ls (.ref a :: st)) rfl (hl.1.trans C.2.2.1.symm) rfl hd (by omega) ?_ (kk p e R s m args below meth c H locs cells slots ls kT nT C h1 h2 h3 h4 hl hP hz hS)
  have h9 : (F0 m pc ls (.ref a :: st)).monitorRoom = 0 := rfl
  rw [h9]
  omega
end XH
end
section
/-! contracts, calls, throws -/
def xa_rm (dp kc ks : Nat) : Room := { frames := dp, cells := kc, slots := ks, locals := 128 * dp }
def xa_Pc (G : xa_G) (as : List Value) (h : xa_H) (sz : Nat) : Array Value → State → Prop := fun a U => a = as.toArray ∧ xa_P G h U.heap ∧ U.heap.size = sz ∧ xa_K G.2.1 U ∧ G.2.2.1 ≤ sz ∧ xa_pr G U
def xa_Qc (G : xa_G) (kc ks : Nat) (Q : Outcome → xa_H → Nat → Prop) : Array Value → State → Outcome → State → Prop := fun _ st o t => xa_R G Q st o t ∧ ∃ L, st.WarmedH t.vm ∧ st.sameButNew ({ t with vm := st.vm } : State) L kc ks ∧ ∀ q ∈ L, G.2.2.1 ≤ q.base
/-- the method M, called with 'as' on a heap that holds h, of size sz: it ends, and Q -/
def xa_T (G : xa_G) (M : xa_M) (dp kc ks : Nat) (as : List Value) (h : xa_H) (sz : Nat) (Q : Outcome → xa_H → Nat → Prop) : Prop :=
  MetFree G.1 M.1 (headSpec xv_T (xa_rm dp kc ks)) (xa_Pc G as h sz) (fun _ _ _ _ _ => True) (xa_Qc G kc ks Q)
/-- what the tables say of a method -/
def xa_O (M : xa_M) : Prop := plainName M.1.cls = true ∧ (Cond.codeWith M.1 M.2.1 M.2.2.1 M.2.2.2.1 M.2.2.2.2 ∈ xv_T ∨ (M.2.2.2.2 = [] ∧ Cond.code M.1 M.2.1 M.2.2.1 M.2.2.2.1 ∈ xv_T)) ∧ Cond.initialized M.1.cls ∈ xv_T ∧ M.1.cls ≠ "java/lang/invoke/MethodHandle" ∧ M.1.cls ≠ "java/lang/invoke/VarHandle"
theorem xa_O.spec {M : xa_M} (h : xa_O M) {args : Array Value} {s : State} (hts : ∀ w ∈ xv_T, w.before args s = true) {m : MethodId} (hn : s.methodNamed? M.1 = some m) : ∃ meth c, s.vm.method? m = some meth ∧ meth.code = some c ∧ c.code = M.2.1 ∧ c.maxLocals = M.2.2.1 ∧ meth.sig.returnType = M.2.2.2.1 ∧ meth.locks = false ∧ xa_tb c.exceptionTable = M.2.2.2.2 ∧ parseMethodDescriptor M.1.desc = some meth.sig := by
  have hw : (Cond.codeWith M.1 M.2.1 M.2.2.1 M.2.2.2.1 M.2.2.2.2).before args s = true := by
    rcases h.2.1 with h1 | ⟨h1, h2⟩
    · exact hts _ h1
    · have h3 := hts _ h2
      rw [h1]
      unfold Cond.before Cond.holds at h3 ⊢
      rw [← Cond.code_iff_codeWith_nil]
      exact h3
  obtain ⟨m', meth, c, hn', hm, hc, hb, hl, ht, hr, hk, hsig⟩ := Cond.codeWith_spec hw
  cases hn.symm.trans hn'
  exact ⟨meth, c, hm, hc, hb, hl, hr, hk, ht, hsig⟩
/-- words hold at every later state of a walk -/
theorem xa_words {args : Array Value} {s : State} (hts : ∀ w ∈ xv_T, w.before args s = true) (a' : Array Value) {U : State} (hW : s.WarmedH U.vm) : ∀ w ∈ xv_T, w.before a' U = true := fun w hw => word_at hW (xv_good w hw) (hts w hw)
theorem xt_of {G : xa_G} {M : xa_M} {dp kc ks : Nat} {as : List Value} {h : xa_H} {sz : Nat} {Q : Outcome → xa_H → Nat → Prop} (hO : xa_O M) (hcat : ∀ v ∈ as, v.category = 1) (hn : as.length ≤ M.2.2.1) (k : xa_W G M dp kc ks 0 (as.map some ++ List.replicate (M.2.2.1 - as.length) none) [] h sz Q) : xa_T G M dp kc ks as h sz Q := by
  refine MetFree.of_bodyS (code := M.2.1) (maxLocals := M.2.2.1) (ret := M.2.2.2.1) hO.1 ?_ ?_
  · intro args s m hp hn'
    obtain ⟨meth, c, h1, h2, h3, h4, h5, h6, -⟩ := hO.spec (atoms_spec (ws := xv_T) hp) hn'
    exact ⟨meth, c, h1, h2, h3, h4, h5, h6⟩
  · intro p e s m args below meth c s₁ B hml hP _
    obtain ⟨rfl, hPic, hsz, hK, hB, hpr⟩ := hP
    have hts := atoms_spec (ws := xv_T) B.pre
    obtain ⟨meth', c', g1, g2, g3, g4, g5, g6, g7, -⟩ := hO.spec hts B.named
    have X := Stand.of_body B
    have e1 : meth' = meth := Option.some.inj (g1.symm.trans B.method)
    subst e1
    have e2 : c' = c := Option.some.inj (g2.symm.trans X.code)
    subst e2
    have hh0 : s₁.heap = s.heap := by rw [B.state]; rfl
    have hlen : (lg_sl as).length ≤ M.2.2.1 := by rw [xa_sl_len as hcat]; exact hn
    have hl := lv_entry as hlen
    have hL : xa_L ((lg_sl as ++ List.replicate (M.2.2.1 - (lg_sl as).length) Slot.unset).toArray) M.2.2.1 (as.map some ++ List.replicate (M.2.2.1 - as.length) none) := by
      refine ⟨hl.1, hl.2.1, fun i v hi => ?_⟩
      by_cases hi2 : i < as.length
      · rw [List.getElem?_append_left (by simpa using hi2), List.getElem?_map] at hi
        obtain ⟨w, hw, hw2⟩ := Option.map_eq_some_iff.mp hi
        cases hw2
        have := xa_args_mem as 0 hcat i v hw
        rw [Nat.zero_add] at this
        exact ⟨hl.2.2 (i, v) this, hcat v (List.mem_of_getElem? hw)⟩
      · rw [List.getElem?_append_right (by simpa using Nat.not_lt.mp hi2), List.getElem?_replicate] at hi
        split at hi <;> cases hi
    obtain ⟨t, a1, o, b1, b2, b3, b4⟩ := k p e (headSpec xv_T (xa_rm dp kc ks)).room s m as.toArray below meth' c' s.heap [] 0 0 _ kc ks
      ⟨B.exec, B.bytes, hml, findClass_of_methodNamed B.named, hts, B.returns, B.notSynchronized, (name_of_methodNamed B.named B.method).1, g7, hK, Nat.le_refl _, Nat.le_refl _, by rw [hsz]; exact hB, hpr⟩
      (by omega) (by omega) (Nat.le_refl _) (Nat.le_refl _) hL hPic hsz va_S.rf s₁ hh0 X
    refine ⟨t, o, ?_, b1, b2, b3, b4⟩
    rw [lg_entry_eq]
    exact a1
/-- a call: the callee comes back, by a value or by a throw -/
theorem xa_comes {G : xa_G} {M : xa_M} {dp kc ks : Nat} {as : List Value} {h : xa_H} {sz : Nat} {Q : Outcome → xa_H → Nat → Prop} {p : Program} {e : Env} {R : Room} {s : State} {m : MethodId} {args : Array Value} {below : List Frame} {meth : Method} {c : Code} {U : State} {locs : List Loc} {cells slots : Nat}
    (hM : xa_T G M dp kc ks as h sz Q) (hO : xa_O M) (X : Stand p G.1 e R s m args below meth c U locs cells slots) (hts : ∀ w ∈ xv_T, w.before args s = true) {g : JFrame} (hg : g.method = m) (hsize : g.locals.size = c.maxLocals) {ig : Instr} (hdg : decode c.code g.pc = .ok (ig, 3))
    (hw : 2 * g.monitorRoom + (g.stack.map fun v => v.category).sum ≤ 8) {mk : MethodId} (hn : U.methodNamed? M.1 = some mk) (hfr : dp + 1 ≤ R.frames) (hlo : 8 + (M.2.2.1 + 11) + 128 * dp ≤ R.locals) (hc : cells + kc ≤ R.cells) (hs : slots + ks ≤ R.slots) (hP : xa_Pc G as h sz as.toArray U) :
    ∃ (o : Outcome) (T' : State) (L : List Loc) (h' : xa_H), Stand p G.1 e R s m args below meth c T' (locs ++ L) (cells + kc) (slots + ks) ∧ (∀ q ∈ L, G.2.2.1 ≤ q.base) ∧ Q o h' T'.heap.size ∧ xa_P G h' T'.heap ∧ U.heap.size ≤ T'.heap.size ∧ (∀ q, q < U.heap.size → ¬ G.2.2.1 ≤ q → T'.heap[q]? = U.heap[q]?) ∧
      Steps p.tables e below (doInvoke e (U.setTop g) [] mk as.toArray).1 (match o with
        | .returned v => T'.setTop { g with pc := g.pc + 3, stack := v.toList ++ g.stack }
        | .threw x => (T'.setTop g).pushFrame (.throwing x)) := by
  have hwU := xa_words hts as.toArray X.warmed
  obtain ⟨methY, cY, hmY, hcY, -, hlY, -⟩ := hO.spec hwU hn
  obtain ⟨kY, hkY, -⟩ := className_of_methodNamed hn
  have hinitY : kY.init = .initialized := Cond.initialized_spec (findClass_of_methodNamed hn) hkY (hwU _ hO.2.2.1)
  have hA : At U g.method c below := by rw [hg]; exact X.here
  have happ : (headSpec xv_T (xa_rm dp kc ks)).appliesLoose M.1 e.platform (U.calling g mk as.toArray) = true :=
    Spec.appliesLoose_calling (g := g) hA hdg hn hkY hinitY
      (X.room_calling (g := g) (R' := (headSpec xv_T (xa_rm dp kc ks)).room) hsize hmY hcY hfr (by rw [hlY]; show _ + _ + 128 * dp ≤ _; omega) hc hs) (atoms_intro hwU)
  obtain ⟨mid, hmid⟩ := hA.above
  have hfr' : (U.setTop g).frames = (.java g :: mid) ++ below := by rw [State.frames_setTop' g hA.top, hmid]; rfl
  have hPc : xa_Pc G as h sz as.toArray (U.calling g mk as.toArray) := by
    obtain ⟨q1, q2, q3, q4, q5, q6⟩ := hP
    exact ⟨q1, q2, q3, q4.moved (u := U) (U := U.calling g mk as.toArray) (Vm.Alike.refl U.vm), q5, xa_pr_calling q6⟩
  obtain ⟨o, s₂, hsteps, -, hend, hq⟩ := Steps.callFree hM p X.admits X.cas X.clock (acts := []) hfr' happ hPc trivial
  have hq' : xa_Qc G kc ks Q as.toArray (U.calling g mk as.toArray) o s₂ := hq
  rw [State.frames_setTop' g hA.top] at hend
  obtain ⟨⟨⟨h', hQ, hP'⟩, hF1, hF2⟩, L, hW₂, ⟨e2, q2, q3, q4, q5, q6⟩, hL⟩ := hq'
  have e3 : s₂ = ({ (U.calling g mk as.toArray).setFrames s₂.frames with heap := s₂.heap, slotsUsed := s₂.slotsUsed } : State).setVm s₂.vm := by
    have : s₂ = ({ s₂ with vm := (U.calling g mk as.toArray).vm } : State).setVm s₂.vm := rfl
    rw [e2] at this
    exact this
  have hW' : U.WarmedH s₂.vm := hW₂
  obtain ⟨g₀, hg0⟩ := Option.isSome_iff_exists.mp hA.top
  obtain ⟨r, hr⟩ := State.topJava?_eq_some.mp hg0
  have hr' : (({ U with heap := s₂.heap, slotsUsed := s₂.slotsUsed } : State).setVm s₂.vm).frames = .java g₀ :: r := hr
  have hsame : U.sameButNew ({ U with heap := s₂.heap, slotsUsed := s₂.slotsUsed } : State) L kc ks := by
    refine ⟨?_, q2, q3, q4, q5, q6⟩
    obtain ⟨t, ht, -⟩ := State.frames_cons hr
    show ({ U with heap := s₂.heap, slotsUsed := s₂.slotsUsed } : State) = { U.setFrames U.frames with heap := s₂.heap, slotsUsed := s₂.slotsUsed }
    rw [State.setFrames_self ht]
  refine ⟨o, (({ U with heap := s₂.heap, slotsUsed := s₂.slotsUsed } : State).setVm s₂.vm), L, h',
    ⟨X.admits, X.cas, X.clock, X.frames, X.room, X.hears, X.method, X.code, (X.here.setHeapUsed s₂.heap s₂.slotsUsed).setVm hW'.alike, X.tail, State.WarmedH.trans X.warmed hW', X.limits, X.bytes, X.same.trans (hsame.setVm s.vm)⟩,
    hL, hQ, hP', hF1, hF2, ?_⟩
  cases o with
  | returned v =>
    obtain ⟨c₂, i₂, len₂, hc₂, hd₂, hf₂⟩ := hend
    have hcc : c₂ = c := by
      have h1 : s₂.code? g.method = U.code? g.method := by
        rw [State.code?_eq, State.code?_eq, hW'.alike.method?]
      exact Option.some.inj (hc₂.symm.trans (h1.trans hA.code))
    subst hcc
    have hlen : len₂ = 3 := by rw [hdg] at hd₂; cases hd₂; rfl
    subst hlen
    have hs₂ : s₂ = (({ U with heap := s₂.heap, slotsUsed := s₂.slotsUsed } : State).setVm s₂.vm).setTop { g with pc := g.pc + 3, stack := v.toList ++ g.stack } := by
      refine e3.trans ?_
      rw [hf₂, State.calling_eq hA.top, State.setFrames_setFrames, State.setTop_of_frames _ hr', hr]
      rfl
    show Steps p.tables e below _ ((({ U with heap := s₂.heap, slotsUsed := s₂.slotsUsed } : State).setVm s₂.vm).setTop { g with pc := g.pc + 3, stack := v.toList ++ g.stack })
    rw [← hs₂]
    exact hsteps
  | threw x =>
    have hf₂ : s₂.frames = .throwing x :: .java g :: U.frames.tail := hend
    have hs₂ : s₂ = ((({ U with heap := s₂.heap, slotsUsed := s₂.slotsUsed } : State).setVm s₂.vm).setTop g).pushFrame (.throwing x) := by
      refine e3.trans ?_
      rw [hf₂, State.calling_eq hA.top, State.setFrames_setFrames, State.pushFrame, State.frames_setTop _ hr', State.setTop_of_frames _ hr', State.setFrames_setFrames, hr]
      rfl
    show Steps p.tables e below _ (((({ U with heap := s₂.heap, slotsUsed := s₂.slotsUsed } : State).setVm s₂.vm).setTop g).pushFrame (.throwing x))
    rw [← hs₂]
    exact hsteps
/-- the walk with an exception x on its way, thrown at pc -/
def xa_X (G : xa_G) (M : xa_M) (dp kc ks pc : Nat) (L : List (Option Value)) (st : List Value) (x : Nat) (h : xa_H) (sz : Nat) (Q : Outcome → xa_H → Nat → Prop) : Prop :=
  ∀ (p : Program) (e : Env) (R : Room) (s : State) (m : MethodId) (args : Array Value) (below : List Frame) (meth : Method) (c : Code) (H : Heap) (locs : List Loc) (cells slots : Nat) (ls : Array Slot) (kT nT : Nat),
    xa_C G M dp p e R s m args meth c → cells + kc ≤ kT → slots + ks ≤ nT → kT ≤ R.cells → nT ≤ R.slots → xa_L ls M.2.2.1 L → xa_P G h H → H.size = sz → va_S (fun q => G.2.2.1 ≤ q) s.heap H locs →
    ∀ T : State, T.heap = H → Stand p G.1 e R s m args below meth c T locs cells slots → ∃ t, Steps p.tables e below ((T.setTop (F0 m pc ls st)).pushFrame (.throwing x)) t ∧ xa_Q G s below kT nT Q t
def xa_out (M : xa_M) (pc : Nat) : Prop := M.2.2.2.2.all (fun q => !(decide (q.1 ≤ pc) && decide (pc < q.2.1))) = true
theorem xa_out.spec {M : xa_M} {pc : Nat} (h : xa_out M pc) {c : Code} (hc : xa_tb c.exceptionTable = M.2.2.2.2) : ∀ x ∈ c.exceptionTable.toList, covers x pc = false := by
  intro x hx
  unfold xa_out at h
  rw [← hc, List.all_eq_true] at h
  have := h _ (List.mem_map.mpr ⟨x, hx, rfl⟩)
  have h9 : ¬ (x.startPc ≤ pc ∧ pc < x.endPc) := by
    intro q
    simp [q.1, q.2] at this
  unfold covers
  rw [Bool.and_eq_false_iff, decide_eq_false_iff_not, decide_eq_false_iff_not]
  omega
theorem xx_out {G : xa_G} {M : xa_M} {dp kc ks pc : Nat} {L : List (Option Value)} {st : List Value} {x : Nat} {h : xa_H} {sz : Nat} {Q : Outcome → xa_H → Nat → Prop} (ho : xa_out M pc) (hq : Q (.threw x) h sz) : xa_X G M dp kc ks pc L st x h sz Q := by
  intro p e R s m args below meth c H locs cells slots ls kT nT C h1 h2 h3 h4 hl hP hz hS T hT X
  obtain ⟨st1, r1, r2, r3, r4⟩ := X.leaveThrown x (g := F0 m pc ls st) rfl rfl rfl (ho.spec C.2.2.2.2.2.2.2.2.1) C.2.2.2.2.2.2.1
  refine ⟨_, st1, .threw x, r1, r2, ⟨⟨h, ?_, ?_⟩, hS.F hT⟩, locs, r3, r4.mono (by omega) (by omega), hS.2.2⟩
  · show Q (.threw x) h T.heap.size
    rw [hT, hz]
    exact hq
  · show xa_P G h T.heap
    rw [hT]
    exact hP
/-- the step into a callee -/
def xa_inv (G : xa_G) (M M' : xa_M) (pc : Nat) (stk as rest : List Value) (h : xa_H) : Prop :=
  ∀ (p : Program) (e : Env) (R : Room) (s : State) (m : MethodId) (args : Array Value) (below : List Frame) (meth : Method) (c : Code) (H : Heap) (locs : List Loc) (cells slots : Nat) (ls : Array Slot),
    p.tables.exec = Jvm.exec → c.code = M.2.1 → s.vm.findClass M.1.cls = some m.cls → (∀ w ∈ xv_T, w.before args s = true) → xa_K G.2.1 s → xa_P G h H → ∀ T : State, T.heap = H → Stand p G.1 e R s m args below meth c T locs cells slots →
    (∃ ig, decode M.2.1 pc = .ok (ig, 3)) ∧ ∃ (vm₁ : Vm) (mk : MethodId), Stand p G.1 e R s m args below meth c (T.setVm vm₁) locs cells slots ∧ s.methodNamed? M'.1 = some mk ∧
      ∀ target, (∀ acts, Steps p.tables e below (doInvoke e ((T.setVm vm₁).setTop (F0 m pc ls rest)) acts mk as.toArray).1 target) → Steps p.tables e below (T.setTop (F0 m pc ls stk)) target
theorem xw_call {G : xa_G} {M M' : xa_M} {dp dp' kc ks kc' ks' pc : Nat} {L : List (Option Value)} {stk as rest : List Value} {h : xa_H} {sz : Nat} {Q Q' : Outcome → xa_H → Nat → Prop} (hI : xa_inv G M M' pc stk as rest h) (hT : xa_T G M' dp' kc' ks' as h sz Q') (hO : xa_O M') (hdp : dp' + 1 ≤ dp) (hml : M'.2.2.1 ≤ 100) (hst : (rest.map fun v => v.category).sum ≤ 8)
    (hret : ∀ v h' z, Q' (.returned v) h' z → xa_W G M dp kc ks (pc + 3) L (v.toList ++ rest) h' z Q) (hthr : ∀ x h' z, Q' (.threw x) h' z → xa_X G M dp kc ks pc L rest x h' z Q) : xa_W G M dp (kc + kc') (ks + ks') pc L stk h sz Q := by
  intro p e R s m args below meth c H locs cells slots ls kT nT C h1 h2 h3 h4 hl hP hz hS T hTH X
  have C' := C
  obtain ⟨hx, hb, hmL, hown, hts, -, -, -, -, hK, hf, hlo, hBs, hpr⟩ := C'
  obtain ⟨⟨ig, hdg⟩, vm₁, mk, X₁, hnm, step⟩ := hI p e R s m args below meth c H locs cells slots ls hx hb hown hts hK hP T hTH X
  have hPc : xa_Pc G as h sz as.toArray (T.setVm vm₁) := by
    refine ⟨rfl, ?_, ?_, hK.moved X₁.warmed.alike, ?_, hpr.to X₁.warmed ?_⟩
    · show xa_P G h T.heap
      rw [hTH]; exact hP
    · show T.heap.size = sz
      rw [hTH]; exact hz
    · have := hS.1
      omega
    · intro a ha hna
      show T.heap[a]? = _
      rw [hTH]
      exact hS.2.1 a ha hna
  obtain ⟨o, T', Lc, h', X', hL, hQ, hP', z1, z2, st2⟩ := xa_comes (g := F0 m pc ls rest) (ig := ig) hT hO X₁ hts rfl (hl.1.trans hmL.symm) (by rw [hb]; exact hdg) (by show 2 * 0 + (rest.map fun v => v.category).sum ≤ 8; omega) (X₁.named hnm) (by omega) (by omega) (by omega) (by omega) hPc
  have z1' : H.size ≤ T'.heap.size := by rw [← hTH]; exact z1
  have z2' : ∀ q, q < H.size → ¬ G.2.2.1 ≤ q → T'.heap[q]? = H[q]? := by rw [← hTH]; exact z2
  have hS' : va_S (fun q => G.2.2.1 ≤ q) s.heap T'.heap (locs ++ Lc) := by
    refine ⟨Nat.le_trans hS.1 z1', fun q g1 g2 => (z2' q (Nat.lt_of_lt_of_le g1 hS.1) g2).trans (hS.2.1 q g1 g2), fun q hq => ?_⟩
    rcases List.mem_append.mp hq with g | g
    · exact hS.2.2 q g
    · exact hL q g
  have hgo := step _ (fun acts => by rw [doInvoke_state]; exact st2)
  cases o with
  | returned v =>
    obtain ⟨t, a1, b1⟩ := hret v h' _ hQ p e R s m args below meth c T'.heap (locs ++ Lc) (cells + kc') (slots + ks') ls kT nT C (by omega) (by omega) h3 h4 hl hP' rfl hS' T' rfl X'
    exact ⟨t, hgo.trans a1, b1⟩
  | threw x =>
    obtain ⟨t, a1, b1⟩ := hthr x h' _ hQ p e R s m args below meth c T'.heap (locs ++ Lc) (cells + kc') (slots + ks') ls kT nT C (by omega) (by omega) h3 h4 hl hP' rfl hS' T' rfl X'
    exact ⟨t, hgo.trans a1, b1⟩
theorem xi_S {G : xa_G} {M M' : xa_M} {pc index n : Nat} {as rest : List Value} {h : xa_H} (hd : decode M.2.1 pc = .ok (.invokestatic index, 3)) (hO : xa_O M') (hl : Cond.methodLink M.1.cls index M'.1 ∈ xv_T) (hs : Cond.static M'.1 ∈ xv_T) (hn : (parseMethodDescriptor M'.1.desc).map (fun d => d.parameters.length) = some n) (ha : as.length = n) : xa_inv G M M' pc (as.reverse ++ rest) as rest h := by
  intro p e R s m args below meth c H locs cells slots ls hx hb hown hts hK hP T hT X
  obtain ⟨mk, hnm⟩ : ∃ mk, s.methodNamed? M'.1 = some mk := by
    rcases hO.2.1 with h1 | h1
    · obtain ⟨m', _, _, hn', -⟩ := Cond.codeWith_spec (hts _ h1)
      exact ⟨m', hn'⟩
    · exact Cond.code_named (hts _ h1.2)
  obtain ⟨methM, cM, hmM, -, -, -, -, -, -, hsig⟩ := hO.spec hts hnm
  obtain ⟨kP, hkP, -⟩ := className_of_methodNamed hnm
  have hinit : kP.init = .initialized := Cond.initialized_spec (findClass_of_methodNamed hnm) hkP (hts _ hO.2.2.1)
  have hst : methM.isStatic = true := Cond.static_spec hnm hmM (hts _ hs)
  have hlen : as.length = methM.sig.parameters.length := by
    rw [hsig] at hn
    rw [ha]
    exact (Option.some.inj hn).symm
  obtain ⟨vm₁, X₁, step⟩ := X.invokestatic hx hown (hts _ hl) hnm hmM hst hkP hinit hO.2.2.2 (g := F0 m pc ls (as.reverse ++ rest)) rfl (argsL := as) (rest := rest) hlen rfl (by rw [hb]; exact hd)
  exact ⟨⟨_, hd⟩, vm₁, mk, X₁, hnm, step⟩
theorem xi_V {G : xa_G} {M M' : xa_M} {pc index n b ci : Nat} {r : vw_C} {fs As rest : List Value} {h : xa_H} (hd : decode M.2.1 pc = .ok (.invokevirtual index, 3)) (hO : xa_O M') (hl : Cond.methodLink M.1.cls index M'.1 ∈ xv_T) (hi : Cond.instanceMethod M'.1 ∈ xv_T) (hc : xv_c[ci]? = some r) (hsel : Cond.selects r.1 M'.1 M'.1 ∈ xv_T) (hn : (parseMethodDescriptor M'.1.desc).map (fun d => d.parameters.length) = some n) (ha : As.length = n) (hb : h b = some (.inr (ci, fs))) : xa_inv G M M' pc (As.reverse ++ .ref b :: rest) (.ref b :: As) rest h := by
  intro p e R s m args below meth c H locs cells slots ls hx hbc hown hts hK hP T hT X
  obtain ⟨cellB, hcB, hobj, hcls⟩ := xa_recv hK hP hc hb
  obtain ⟨mk, methM, hnm, hmM, hstM, habM⟩ := Cond.instanceMethod_spec (hts _ hi)
  obtain ⟨methM', cM, hmM', -, -, -, -, -, -, hsig⟩ := hO.spec hts hnm
  cases hmM.symm.trans hmM'
  obtain ⟨c2, r2, m2, q1, q2, q3, q4, kP, hkP, hkPi⟩ := Cond.selects_spec (hts _ hsel)
  cases hcls.symm.trans q1
  cases (State.methodFound?_of_named hnm hO.2.2.2).symm.trans q2
  cases hnm.symm.trans q3
  have hselP : selectMethod e.platform s.vm cellB.cls mk = .method mk := by rw [Launch.admits_selectMethod X.admits]; exact q4
  have hlen : As.length = methM.sig.parameters.length := by
    rw [hsig] at hn
    rw [ha]
    exact (Option.some.inj hn).symm
  obtain ⟨vm₁, X₁, step⟩ := X.invokevirtual hx hown (hts _ hl) hnm hmM hstM hkP hkPi hO.2.2.2 (a := b) (cell := cellB) (by rw [hT]; exact hcB)
    (fun z hz => by rw [hz] at hobj; cases hobj) hselP hmM habM hkP hkPi (g := F0 m pc ls (As.reverse ++ .ref b :: rest)) rfl (argsL := As) (rest := rest) hlen rfl (by rw [hbc]; exact hd)
  exact ⟨⟨_, hd⟩, vm₁, mk, X₁, hnm, step⟩
theorem xi_I {G : xa_G} {M M' : xa_M} {pc index n b : Nat} {As rest : List Value} {h : xa_H} (hd : decode M.2.1 pc = .ok (.invokespecial index, 3)) (hO : xa_O M') (hy : M'.1.name = "<init>") (hcw : Cond.code M'.1 M'.2.1 M'.2.2.1 none ∈ xv_T) (hl : Cond.methodLink M.1.cls index M'.1 ∈ xv_T) (hi : Cond.instanceMethod M'.1 ∈ xv_T) (hn : (parseMethodDescriptor M'.1.desc).map (fun d => d.parameters.length) = some n) (ha : As.length = n) : xa_inv G M M' pc (As.reverse ++ .ref b :: rest) (.ref b :: As) rest h := by
  intro p e R s m args below meth c H locs cells slots ls hx hbc hown hts hK hP T hT X
  have hpl : e.platform.magicAccessors = ({} : Platform).magicAccessors := by rw [X.admits.platform]
  obtain ⟨mk, methM, cM, kP, vm₁, hnm, hmM, hcM, -, hlM, -, hkP, -, hW₁, step⟩ := Steps.initColdArgs (e := e) X.here hx X.warmed hpl hown hy hO.2.2.2 (hts _ hl) (hts _ hi) (hts _ hcw) (f := F0 m pc ls (As.reverse ++ .ref b :: rest)) rfl (a := b) (argsL := As) (rest := rest) (fun sig hs => by
    rw [hs] at hn
    rw [ha]
    exact (Option.some.inj hn).symm) rfl (by rw [hbc]; exact hd)
  exact ⟨⟨_, hd⟩, vm₁, mk, X.noted hW₁, hnm, step⟩
end
section
/-! a walk begun anew at a state that it has come to -/
theorem xa_hears {s T : State} {m : MethodId} {fs below : List Frame} (hvm : s.vm.Alike T.vm) (h : s.hears m below = true) : (T.setFrames fs).hears m below = true := by
  cases below with
  | nil =>
    simp only [State.hears] at h ⊢
    show (T.vm.method? m).any _ = true
    rw [hvm.method?]
    exact h
  | cons f r =>
    cases f with
    | java g =>
      simp only [State.hears] at h ⊢
      have e1 : (T.setFrames fs).code? g.method = s.code? g.method := by
        rw [State.code?_eq, State.code?_eq]
        show (T.vm.method? _).bind _ = _
        rw [hvm.method?]
      rw [e1]
      exact h
    | native _ => rfl
    | proc _ => rfl
    | _ =>
      simp only [State.hears] at h ⊢
      show (T.vm.method? m).any _ = true
      rw [hvm.method?]
      exact h
theorem xa_rebase {p : Program} {l : Launch} {e : Env} {R : Room} {s : State} {m : MethodId} {args : Array Value} {below : List Frame} {meth : Method} {c : Code} {T : State} {locs : List Loc} {cells slots : Nat} (X : Stand p l e R s m args below meth c T locs cells slots) (hc : cells ≤ R.cells) (hs : slots ≤ R.slots) :
    Stand p l e { R with cells := R.cells - cells, slots := R.slots - slots } (T.setFrames (.invoking m args :: below)) m args below meth c T [] 0 0 := by
  obtain ⟨g₀, hfr⟩ := X.frames_eq
  have hcur : T.cur < T.threads.size := State.cur_lt_of_frames hfr
  have hF : (T.setFrames (.invoking m args :: below)).frames = .invoking m args :: below := State.frames_setFrames _ hcur
  have hm' : (T.setFrames (.invoking m args :: below)).vm.method? m = some meth := X.method'
  refine ⟨X.admits, X.cas, X.clock, hF, ?_, xa_hears X.warmed.alike X.hears, hm', X.code, X.here, X.tail, State.WarmedH.refl _, ?_, ?_, ?_⟩
  · have h := X.room
    simp only [State.hasRoom, Bool.and_eq_true, decide_eq_true_eq] at h ⊢
    obtain ⟨⟨⟨⟨r1, r2, r3, r4, r5, r6⟩, r7⟩, r8⟩, r9⟩ := h
    rw [State.localsInUse_invoking hF hm' X.code, State.stackLimits_setFrames, State.stackBytes_setFrames, hF, X.limits, X.bytes]
    rw [State.localsInUse_invoking X.frames X.method X.code] at r1 r4 r5
    rw [X.frames] at r2 r3
    have z1 := X.heapSize
    have z2 := X.used
    have z3 := X.book
    refine ⟨⟨⟨⟨r1, r2, r3, r4, r5, r6⟩, ?_⟩, ?_⟩, z3⟩
    · show T.heap.size + (R.cells - cells) ≤ _
      omega
    · show T.slotsUsed + (R.slots - slots) ≤ _
      omega
  · rw [State.stackLimits_setFrames]
  · rw [State.stackBytes_setFrames]
  · refine ⟨?_, Nat.le_refl _, Nat.le_refl _, ?_, ?_, fun a c h => ⟨c, h, rfl, rfl, fun _ _ => rfl⟩⟩
    · obtain ⟨t, ht, -⟩ := State.frames_cons hfr
      show T = { (T.setFrames (.invoking m args :: below)).setFrames T.frames with heap := T.heap, slotsUsed := T.slotsUsed }
      rw [State.setFrames_setFrames, State.setFrames_self ht]
    · show T.slotsUsed = T.slotsUsed + ((T.heap.toList.drop T.heap.size).map _).sum
      rw [List.drop_eq_nil_of_le (by simp)]
      rfl
    · show ((T.heap.toList.drop T.heap.size).map _).sum ≤ 0
      rw [List.drop_eq_nil_of_le (by simp)]
      exact Nat.le_refl _
theorem xa_rejoin {s T U : State} {m : MethodId} {args : Array Value} {below : List Frame} {locs L : List Loc} {cells slots k n : Nat} (h1 : s.sameButNew (T.setVm s.vm) locs cells slots) (h2 : (T.setFrames (.invoking m args :: below)).sameButNew ({ U with vm := (T.setFrames (.invoking m args :: below)).vm } : State) L k n) : s.sameButNew ({ U with vm := s.vm } : State) (locs ++ L) (cells + k) (slots + n) := by
  have h3 : (T.setVm s.vm).sameButNew ({ U with vm := s.vm } : State) L k n := by
    obtain ⟨q1, q2, q3, q4, q5, q6⟩ := h2
    refine ⟨?_, q2, q3, q4, q5, q6⟩
    have q7 : ({ U with vm := T.vm } : State) = { T.setFrames U.frames with heap := U.heap, slotsUsed := U.slotsUsed } := by
      refine Eq.trans q1 ?_
      rw [State.setFrames_setFrames]
      rfl
    have q8 := congrArg (fun z : State => { z with vm := s.vm }) q7
    exact q8
  exact h1.trans h3
theorem xa_zev {C n d : String} {v : Value} {A : Nat → Prop} {U : State} {args : Array Value} {o : Option Outcome} {idx : List Nat} (h : va_Z C n d v A U U.heap) : (Term.static C n d).eval args U o idx U = some v := by
  obtain ⟨cf, kf, fi, f, a, cell, h1, h2, h3, h4, h5, h6, h7, h8⟩ := h
  simp [Term.eval, State.fieldNamed?, h1, h2, h4, h5, h6, h7]
theorem xa_isRef {C n d : String} {v : Value} {A : Nat → Prop} {U : State} (args : Array Value) (hv : v.isRef = true) (h : va_Z C n d v A U U.heap) : (Cond.isRef (.static C n d)).before args U = true := by
  have e := xa_zev (args := args) (o := none) (idx := []) h
  simp only [Cond.before, Cond.holds, Cond.value, e]
  cases v <;> first | rfl | (simp [Value.isRef] at hv)
/-- what the tables say of an exception's class X (number ci) and of its constructor, named by the entry ic of own's pool -/
def xa_E0 (own : String) (ia ic ci : Nat) (X : String) (names : List String) : Prop := (∃ F, xv_c[ci]? = some (X, F, 0)) ∧ Bundle.fit X = true ∧ (∀ n ∈ names, Bundle.fit n = true) ∧ names.length ≤ 3 ∧ Cond.classLink own ia X ∈ xv_T ∧ Cond.instantiable X 6 ∈ xv_T ∧ Cond.initialized X ∈ xv_T ∧ Cond.castable X X ∈ xv_U ∧
  ∀ w ∈ Bundle.ownAtoms own ic X names, w ∈ xv_T ∨ w = Cond.castable X X ∨ w = Cond.isRef (.static "java/lang/Throwable" "UNASSIGNED_STACK" "[Ljava/lang/StackTraceElement;") ∨ w = Cond.isRef (.static "java/lang/Throwable" "SUPPRESSED_SENTINEL" "Ljava/util/List;")
set_option maxHeartbeats 4000000 in
/-- throw new X("..") : new, dup, ldc, invokespecial, athrow -/
theorem xw_throw {G : xa_G} {M : xa_M} {dp kc ks pc ia ib ic ci : Nat} {L : List (Option Value)} {st : List Value} {h : xa_H} {sz : Nat} {Q : Outcome → xa_H → Nat → Prop} {X tx : String} {names : List String} (hE : xa_E0 M.1.cls ia ic ci X names)
    (hd0 : decode M.2.1 pc = .ok (.new ia, 3)) (hd3 : decode M.2.1 (pc + 3) = .ok (.dup, 1)) (hd4 : decode M.2.1 (pc + 4) = .ok (.ldc ib, 2)) (hd6 : decode M.2.1 (pc + 6) = .ok (.invokespecial ic, 3)) (hd9 : decode M.2.1 (pc + 9) = .ok (.athrow, 1)) (hstr : (M.1.cls, ib, tx) ∈ xv_S)
    (hdp : 8 ≤ dp) (hst : (st.map fun v => v.category).sum ≤ 8) (hout : xa_out M (pc + 9)) (hq : Q (.threw sz) (xa_up h sz (.inr (ci, []))) (sz + 1)) : xa_W G M dp (kc + 1) (ks + 6) pc L st h sz Q := by
  obtain ⟨⟨F, hc⟩, hfit, hfits, hlen, hcl, hins, hini, hcast, hat⟩ := hE
  intro p e R s m args below meth c H locs cells slots ls kT nT C h1 h2 h3 h4 hl hP hz hS T hT X0
  obtain ⟨hx, hb, hmL, hown, hts, hret, hlk, hnm, htb, hK, hf, hlo, hBs, hpr⟩ := C
  have X' := xa_rebase X0 (by omega) (by omega)
  generalize hs' : T.setFrames (.invoking m args :: below) = s' at X'
  have hvm' : s'.vm = T.vm := by rw [← hs']; rfl
  have hhp' : s'.heap = H := by rw [← hs', ← hT]; rfl
  have hWs : s.WarmedH s'.vm := by rw [hvm']; exact X0.warmed
  have hts' := xa_words hts args (U := s') hWs
  have hpr' : xa_pr G s' := hpr.to hWs (fun a ha hna => by rw [hhp']; exact hS.2.1 a ha hna)
  have hK' : xa_K G.2.1 s' := hK.moved hWs.alike
  have hown' : s'.vm.findClass M.1.cls = some m.cls := by rw [hWs.alike.findClass]; exact hown
  obtain ⟨q, hq0⟩ := hpr'.2.1 _ hstr
  have hcls := (hK'.1 ci _ hc).2
  obtain ⟨v5, e5, z5⟩ := hpr'.2.2.2.2.1
  obtain ⟨v6, e6, z6⟩ := hpr'.2.2.2.2.2
  have hwords : ∀ w ∈ Bundle.ownAtoms M.1.cls ic X names, w.before args s' = true := by
    intro w hw
    rcases hat w hw with g | g | g | g
    · exact hts' w g
    · rw [g]; exact va_Nw.use rfl (hpr'.2.2.2.1 _ hcast)
    · rw [g]; exact xa_isRef args e5 z5
    · rw [g]; exact xa_isRef args e6 z6
  have htr : e.platform.stackTraces = false := Launch.traces_off hpr.1 X0.admits
  have key : W p G.1 e { R with cells := R.cells - cells, slots := R.slots - slots } s' m args below meth c H [] 0 0 (fun U => U.status = .running ∧ Ended U below (.threw sz) ∧ s'.WarmedH U.vm ∧ s'.sameButNew ({ U with vm := s'.vm } : State) [] 1 6 ∧ ∃ ce : Cell, U.heap[sz]? = some ce ∧ ce.cls = G.2.1.1.1 ci ∧ ce.vm = .none) (F0 m pc ls st) := by
    refine W.newcK (n := 6) hx hb hown' (hts' _ hcl) (hts' _ hins) (hts' _ hini) rfl hd0 (by show 0 + 1 ≤ R.cells - cells; omega) (by show 0 + 6 ≤ R.slots - slots; omega) hcls.1 hz fun H1 kC hkC e1 z1 o1 => ?_
    refine W.eq (g2 := F0 m (pc + 3) ls (.ref sz :: st)) rfl ?_
    refine lv_dup hx hb hd3 rfl ?_
    refine va_ldcS hx hb hown' hq0 hd4 ?_
    intro T1 hT1 X1
    obtain ⟨U, g1, g2, g3, g4, g5, ce, g6, g7⟩ := X1.ctorThrowS hx htr hown' hfit hfits hwords (fun y hy => by cases hy) hcls.1 hkC (a := sz) (by rw [hT1]; exact e1) (by rw [hhp', hz]; exact Nat.le_refl _) (msg := .ref q) rfl (g := F0 m (pc + 3 + 1 + 2) ls (.ref q :: .ref sz :: .ref sz :: st)) rfl (hl.1.trans hmL.symm) rfl rfl rfl (by rw [hb]; exact hd6) (by rw [hb]; exact hd9) (hout.spec htb) (by show names.length + 3 < R.frames; omega) (by
      show 2 * 0 + ((Value.ref sz :: st).map fun v => v.category).sum + (13 * (names.length + 1) + 42) ≤ R.locals
      have : ((Value.ref sz :: st).map fun v => v.category).sum = 1 + (st.map fun v => v.category).sum := by simp [Value.category]
      omega) hlk
    exact ⟨U, g1, g2, g3, g4, g5, ce, g6, Option.some.inj (g7.cls.symm.trans hcls.1), g7.vm⟩
  obtain ⟨U, st1, u1, u2, u3, u4, ce, u5, u6, u7⟩ := key T hT X'
  have hold : ∀ a, a < sz → U.heap[a]? = H[a]? := by
    intro a ha
    obtain ⟨-, -, -, -, -, w6⟩ := u4
    obtain ⟨cl, hcl'⟩ : ∃ cl, H[a]? = some cl := ⟨H[a]'(by omega), by simp [show a < H.size by omega]⟩
    obtain ⟨c', w1, w2, w3, w4⟩ := w6 a cl (by rw [hhp']; exact hcl')
    have w5 : c'.slots = cl.slots := by
      apply Array.ext_getElem?
      intro i
      exact w4 i (by simp)
    rw [hcl']
    show U.heap[a]? = some cl
    have w7 : U.heap[a]? = some c' := w1
    rw [w7, w2, w5]
  have hsz : U.heap.size = sz + 1 := by
    have w1 : U.heap.size ≤ s'.heap.size + 1 := u4.2.2.1
    have w2 := (Array.getElem?_eq_some_iff.mp u5).1
    rw [hhp'] at w1
    omega
  refine ⟨U, st1, .threw sz, u1, u2, ⟨⟨xa_up h sz (.inr (ci, [])), by rw [hsz]; exact hq, ?_⟩, ?_⟩, locs ++ [], ?_, ?_, ?_⟩
  · have hP0 : xa_P G h H := hP
    subst hz
    exact hP0.new (e := .inr (ci, [])) ⟨_, hc, ce, u5, u6, u7, fun k hk => absurd hk (Nat.not_lt_zero k)⟩ hold hsz
  · refine ⟨by have := hS.1; omega, fun a ha hna => ?_⟩
    have hle := hS.1
    rw [hold a (by omega)]
    exact hS.2.1 a ha hna
  · exact State.WarmedH.trans (X0.warmed) (by rw [← hs'] at u3; exact u3)
  · subst hs'
    exact (xa_rejoin X0.same u4).mono (by omega) (by omega)
  · intro y hy
    rw [List.append_nil] at hy
    exact hS.2.2 y hy
end
section
/-! a throw that is caught: the rows of the table are asked in their order; a class that a row names may be linked just then -/
def xa_asks (pl : Platform) (s₀ : State) (d : ClassId) (pc : Nat) (thrown : ClassId) (y : ExceptionTableEntry) (yes : Bool) : Prop := covers y pc = true ∧ y.catchType ≠ 0 ∧ ∃ c, s₀.vm.ClassLinks pl d y.catchType c ∧ s₀.vm.assignable thrown c = yes
theorem xa_ask1 {e : Env} {f : JFrame} {a : Addr} {s₀ S : State} {cell : Cell} {y : ExceptionTableEntry} {yes : Bool} (hW : s₀.WarmedH S.vm) (hcell : S.heap[a]? = some cell) (hobj : ∀ k, cell.vm ≠ .statics k) (hk0 : ∃ k, s₀.vm.classes[cell.cls]? = some k) (hy : xa_asks e.platform s₀ f.method.cls f.pc cell.cls y yes) :
    ∃ vm', s₀.WarmedH vm' ∧ ∀ (t : List ExceptionTableEntry) (Q : Handler → Pre) (E : CtlPost) (d : Bool) (acts : List Action), wp (findHandler.go f a (y :: t)) Q E e d acts S ↔ (if yes = true then Q (.found y.handlerPc) d acts (S.setVm vm') else wp (findHandler.go f a t) Q E e d acts (S.setVm vm')) := by
  obtain ⟨hcov, h0, c, hl, hfit⟩ := hy
  obtain ⟨k0, hk0⟩ := hk0
  obtain ⟨dk, _, _, kt, hd, _, _, _, _, hkt, _, hopen⟩ := hl.here
  have hl' := hW.classLinks hl
  have hW' : s₀.WarmedH (S.vm.noted f.method.cls y.catchType (.cls c)) := hW.noted hd hopen (State.rightAt_cls hl)
  obtain ⟨q1, q2⟩ := (resolveClass_links e.toSetting hl').op (op := VmOp.resolveClass f.method.cls y.catchType) rfl
  obtain ⟨k1, hk1, -⟩ := hW'.alike.2.2 _ _ hk0
  obtain ⟨k2, hk2, -⟩ := hW'.alike.2.2 _ _ hkt
  have hfit' : (S.vm.noted f.method.cls y.catchType (.cls c)).assignable cell.cls c = yes := by rw [hW'.alike.assignable]; exact hfit
  refine ⟨_, hW', fun t Q E d acts => ?_⟩
  simp only [covers] at hcov
  cases yes with
  | true => simp [findHandler.go, hcov, h0, q1, q2, hcell, hobj, hk1, hk2, hfit', VmOp.dirties, VmOp.acts]
  | false => simp [findHandler.go, hcov, h0, q1, q2, hcell, hobj, hk1, hk2, hfit', VmOp.dirties, VmOp.acts]
theorem xa_asked {e : Env} {f : JFrame} {a : Addr} {s₀ : State} {cell : Cell} (hobj : ∀ k, cell.vm ≠ .statics k) (hk0 : ∃ k, s₀.vm.classes[cell.cls]? = some k) (x : ExceptionTableEntry) (hx : xa_asks e.platform s₀ f.method.cls f.pc cell.cls x true) (t : List ExceptionTableEntry) :
    ∀ (pre : List ExceptionTableEntry) (S : State), s₀.WarmedH S.vm → S.heap[a]? = some cell → (∀ y ∈ pre, covers y f.pc = false ∨ xa_asks e.platform s₀ f.method.cls f.pc cell.cls y false) →
      ∃ vm', s₀.WarmedH vm' ∧ ∀ (Q : Handler → Pre) (E : CtlPost) (d : Bool) (acts : List Action), wp (findHandler.go f a (pre ++ x :: t)) Q E e d acts S ↔ Q (.found x.handlerPc) d acts (S.setVm vm') := by
  intro pre
  induction pre with
  | nil =>
    intro S hW hcell _
    obtain ⟨vm', hW', hq⟩ := xa_ask1 hW hcell hobj hk0 hx
    exact ⟨vm', hW', fun Q E d acts => by simpa using hq t Q E d acts⟩
  | cons y ys ih =>
    intro S hW hcell hpass
    have hrest : ∀ z ∈ ys, covers z f.pc = false ∨ xa_asks e.platform s₀ f.method.cls f.pc cell.cls z false := fun z hz => hpass z (List.mem_cons_of_mem _ hz)
    rcases hpass y List.mem_cons_self with hno | hy
    · obtain ⟨vm', hW', hq⟩ := ih S hW hcell hrest
      exact ⟨vm', hW', fun Q E d acts => by
        rw [List.cons_append, W.findHandler_go_skip hno]
        exact hq Q E d acts⟩
    · obtain ⟨vm1, hW1, hq1⟩ := xa_ask1 hW hcell hobj hk0 hy
      obtain ⟨vm', hW', hq⟩ := ih (S.setVm vm1) hW1 hcell hrest
      exact ⟨vm', hW', fun Q E d acts => by
        rw [List.cons_append, hq1]
        have h9 := hq Q E d acts
        rw [show (S.setVm vm1).setVm vm' = S.setVm vm' from rfl] at h9
        simpa using h9⟩
theorem xa_caught {p : Program} {l : Launch} {e : Env} {R : Room} {s : State} {m : MethodId} {args : Array Value} {below : List Frame} {meth : Method} {c : Code} {T : State} {locs : List Loc} {cells slots : Nat} (X : Stand p l e R s m args below meth c T locs cells slots) {a : Addr} {g : JFrame} (hg : g.method = m) {cell : Cell} (hcell : T.heap[a]? = some cell) (hobj : ∀ k, cell.vm ≠ .statics k) (hk0 : ∃ k, s.vm.classes[cell.cls]? = some k)
    (pre : List ExceptionTableEntry) (x : ExceptionTableEntry) (t : List ExceptionTableEntry) (hsplit : c.exceptionTable.toList = pre ++ x :: t) (hpass : ∀ y ∈ pre, covers y g.pc = false ∨ xa_asks e.platform s m.cls g.pc cell.cls y false) (hx : xa_asks e.platform s m.cls g.pc cell.cls x true) :
    ∃ vm', Stand p l e R s m args below meth c (T.setVm vm') locs cells slots ∧ ∀ target, Steps p.tables e below ((T.setVm vm').setTop { g with pc := x.handlerPc, stack := [.ref a] }) target → Steps p.tables e below ((T.setTop g).pushFrame (.throwing a)) target := by
  subst hg
  obtain ⟨vm', hW', hq⟩ := xa_asked (e := e) (f := g) (a := a) hobj hk0 x hx t pre ((T.setTop g).pushFrame (.throwing a)) (by rw [Stand.throwing_vm]; exact X.warmed) (by rw [Stand.throwing_heap]; exact hcell) hpass
  refine ⟨vm', X.noted hW', fun target hrest => ?_⟩
  have hA := X.here
  obtain ⟨hgo, hw⟩ := hA.throwing a
  refine Steps.head hgo hw ?_
  have hm : ((T.setTop g).pushFrame (.throwing a)).vm.method? g.method = some meth := by rw [Stand.throwing_vm]; exact X.method'
  have hfind : ∀ (Q : Handler → Pre) (E : CtlPost) (d : Bool) (acts : List Action), wp (findHandler g a) Q E e d acts ((T.setTop g).pushFrame (.throwing a)) ↔ Q (.found x.handlerPc) d acts (((T.setTop g).pushFrame (.throwing a)).setVm vm') := by
    intro Q E d acts
    rw [W.findHandler_eq hm X.code, hsplit]
    exact hq Q E d acts
  have hstep : (stepThrowing e ((T.setTop g).pushFrame (.throwing a)) a (.java g :: T.frames.tail)).1 = (((T.setTop g).pushFrame (.throwing a)).setVm vm').setFrames (.java { g with pc := x.handlerPc, stack := [.ref a] } :: T.frames.tail) := by
    simp only [stepThrowing, searchFrame, vmDo]
    generalize hr : Sem.go _ e false [] _ = res
    obtain ⟨as, rfl, ha⟩ := Sem.eq_ok_of hr (a := Handler.found x.handlerPc) (s' := ((T.setTop g).pushFrame (.throwing a)).setVm vm') (acts' := []) (by simp [hfind _ _ _ _])
    rfl
  rw [stepThread_throwing (frames_entered hA.top _), hstep]
  obtain ⟨g₀, hg0⟩ := Option.isSome_iff_exists.mp hA.top
  obtain ⟨r, hr⟩ := State.topJava?_eq_some.mp hg0
  have hr' : (T.setVm vm').frames = .java g₀ :: r := hr
  rw [State.setTop_of_frames _ hr'] at hrest
  have e1 : (((T.setTop g).pushFrame (.throwing a)).setVm vm').setFrames (.java { g with pc := x.handlerPc, stack := [.ref a] } :: T.frames.tail) = (T.setVm vm').setFrames (.java { g with pc := x.handlerPc, stack := [.ref a] } :: r) := by
    rw [hr, List.tail_cons, State.pushFrame, State.setTop_of_frames _ hr]
    show ((((T.setFrames _).setFrames _).setVm vm').setFrames _) = _
    rw [State.setFrames_setFrames]
    show (((T.setVm vm').setFrames _).setFrames _) = _
    rw [State.setFrames_setFrames]
  rw [e1]
  exact hrest
/-- how a row of the table takes or passes an exception of class number ci: by the words -/
def xa_row (own : String) (pc : Nat) (X : String) (q : Nat × Nat × Nat × Nat) (yes : Bool) : Prop := q.1 ≤ pc ∧ pc < q.2.1 ∧ q.2.2.2 ≠ 0 ∧ ∃ E, Cond.classLink own q.2.2.2 E ∈ xv_T ∧ (if yes = true then Cond.castable X E ∈ xv_U else Cond.not (Cond.castable X E) ∈ xv_U)
theorem xa_row.asks {own X : String} {pc ci : Nat} {q : Nat × Nat × Nat × Nat} {yes : Bool} (h : xa_row own pc X q yes) {G : xa_G} {e : Env} {s : State} {args : Array Value} {d : ClassId} (hpl : e.platform.magicAccessors = ({} : Platform).magicAccessors) (hown : s.vm.findClass own = some d) (hts : ∀ w ∈ xv_T, w.before args s = true) (hU : ∀ w ∈ xv_U, w.before #[] s = true) {F : u_T} {N : Nat} (hc : xv_c[ci]? = some (X, F, N)) (hK : xa_K G.2.1 s) {y : ExceptionTableEntry} (hy : (y.startPc, y.endPc, y.handlerPc, y.catchType) = q) : xa_asks e.platform s d pc (G.2.1.1.1 ci) y yes := by
  subst hy
  obtain ⟨h1, h2, h3, E, hlink, hcast⟩ := h
  obtain ⟨cE, hcE, hcl⟩ := Cond.classLink_spec hown (hts _ hlink) e.platform hpl
  have hX := (hK.1 ci _ hc).2.1
  refine ⟨by simp [covers, h1, h2], h3, cE, hcl, ?_⟩
  cases yes with
  | true =>
    rw [if_pos rfl] at hcast
    obtain ⟨c0, t0, f1, f2, f3⟩ := Cond.castable_spec (hU _ hcast)
    cases hX.symm.trans f1
    cases hcE.symm.trans f2
    exact f3
  | false =>
    rw [if_neg (by decide)] at hcast
    have hv := Cond.holds_not_iff.mp (hU _ hcast)
    simp only [Cond.value, hX, hcE] at hv
    exact Option.some.inj hv
/-- the exception is caught: by the row q, behind the rows pre that pass it -/
theorem xx_catch {G : xa_G} {M : xa_M} {dp kc ks pc ci x : Nat} {L : List (Option Value)} {st : List Value} {h : xa_H} {sz : Nat} {Q : Outcome → xa_H → Nat → Prop} {X : String} {F : u_T} {N : Nat} {fs : List Value} (pre : List (Nat × Nat × Nat × Nat)) (q : Nat × Nat × Nat × Nat) (post : List (Nat × Nat × Nat × Nat)) (hc : xv_c[ci]? = some (X, F, N)) (hx : h x = some (.inr (ci, fs))) (hsplit : M.2.2.2.2 = pre ++ q :: post) (hpre : ∀ y ∈ pre, xa_row M.1.cls pc X y false) (hqr : xa_row M.1.cls pc X q true)
    (k : xa_W G M dp kc ks q.2.2.1 L [.ref x] h sz Q) : xa_X G M dp kc ks pc L st x h sz Q := by
  intro p e R s m args below meth c H locs cells slots ls kT nT C h1 h2 h3 h4 hl hP hz hS T hT X0
  have C' := C
  obtain ⟨hx0, hb, hmL, hown, hts, hret, hlk, hnm, htb, hK, hf, hlo, hBs, hpr⟩ := C'
  have hpl : e.platform.magicAccessors = ({} : Platform).magicAccessors := by rw [X0.admits.platform]
  obtain ⟨r, hr, cell, g1, g2, g3, -⟩ := hP.1 x _ hx
  have hkc : ∃ kx, s.vm.classes[cell.cls]? = some kx := by
    obtain ⟨-, kC, hkC, -⟩ := (hK.1 ci _ hc).2
    exact ⟨kC, by rw [g2]; exact hkC⟩
  have htb' : c.exceptionTable.toList.map (fun h => (h.startPc, h.endPc, h.handlerPc, h.catchType)) = pre ++ q :: post := by
    have := htb
    unfold xa_tb at this
    rw [this, hsplit]
  obtain ⟨l1, l2, e1, e2, e3⟩ := List.map_eq_append_iff.mp htb'
  obtain ⟨y, l3, e4, e5, e6⟩ := List.map_eq_cons_iff.mp e3
  obtain ⟨vm', X1, step⟩ := xa_caught X0 (a := x) (g := F0 m pc ls st) rfl (by rw [hT]; exact g1) (fun kk hk => by rw [g3] at hk; cases hk) hkc l1 y l3 (by rw [e1, e4]) (fun z hz' => Or.inr (by
    rw [g2]
    exact (hpre _ (by rw [← e2]; exact List.mem_map.mpr ⟨z, hz', rfl⟩)).asks hpl hown hts hpr.2.2.2.1 hc hK rfl)) (by
    rw [g2]
    exact hqr.asks hpl hown hts hpr.2.2.2.1 hc hK e5)
  have hy3 : y.handlerPc = q.2.2.1 := by rw [← e5]
  obtain ⟨t, a1, b1⟩ := k p e R s m args below meth c H locs cells slots ls kT nT C h1 h2 h3 h4 hl hP hz hS (T.setVm vm') hT X1
  refine ⟨t, step t ?_, b1⟩
  rw [hy3]
  exact a1
end
