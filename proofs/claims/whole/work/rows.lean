section
-- ===== PART A: goes FIRST, ahead of the names: the tables' words, and 'selects' of the private methods out of them =====
/-- a private method of a class that the tables say can be made, by its rows of tables_1 -/
def lw_okq (q : MethodName × Nat) : Prop := (q.1.cls ≠ "java/lang/invoke/MethodHandle" ∧ q.1.cls ≠ "java/lang/invoke/VarHandle") ∧ Cond.instantiable q.1.cls q.2 ∈ tables_1 ∧ Cond.privateMethod q.1 ∈ tables_1 ∧ Cond.instanceMethod q.1 ∈ tables_1
theorem lw_p0 : lw_okq (⟨"java/util/ArrayList", "fastRemove", "([Ljava/lang/Object;I)V"⟩, 3) := ⟨⟨by decide +kernel, by decide +kernel⟩, List.mem_of_getElem? (i := 48) (by decide +kernel), List.mem_of_getElem? (i := 257) (by decide +kernel), List.mem_of_getElem? (i := 258) (by decide +kernel)⟩
theorem lw_p1 : lw_okq (⟨"java/util/ArrayList", "add", "(Ljava/lang/Object;[Ljava/lang/Object;I)V"⟩, 3) := ⟨⟨by decide +kernel, by decide +kernel⟩, List.mem_of_getElem? (i := 48) (by decide +kernel), List.mem_of_getElem? (i := 291) (by decide +kernel), List.mem_of_getElem? (i := 292) (by decide +kernel)⟩
theorem lw_p2 : lw_okq (⟨"java/util/ArrayList", "grow", "()[Ljava/lang/Object;"⟩, 3) := ⟨⟨by decide +kernel, by decide +kernel⟩, List.mem_of_getElem? (i := 48) (by decide +kernel), List.mem_of_getElem? (i := 295) (by decide +kernel), List.mem_of_getElem? (i := 296) (by decide +kernel)⟩
theorem lw_p3 : lw_okq (⟨"java/util/ArrayList", "grow", "(I)[Ljava/lang/Object;"⟩, 3) := ⟨⟨by decide +kernel, by decide +kernel⟩, List.mem_of_getElem? (i := 48) (by decide +kernel), List.mem_of_getElem? (i := 299) (by decide +kernel), List.mem_of_getElem? (i := 300) (by decide +kernel)⟩
theorem lw_p4 : lw_okq (⟨"NotedVolume", "endGathering", "(LNotedVolume$Gathering;)V"⟩, 7) := ⟨⟨by decide +kernel, by decide +kernel⟩, List.mem_of_getElem? (i := 34) (by decide +kernel), List.mem_of_getElem? (i := 357) (by decide +kernel), List.mem_of_getElem? (i := 358) (by decide +kernel)⟩
theorem lw_p5 : lw_okq (⟨"NotedVolume", "checkPower", "()V"⟩, 7) := ⟨⟨by decide +kernel, by decide +kernel⟩, List.mem_of_getElem? (i := 34) (by decide +kernel), List.mem_of_getElem? (i := 433) (by decide +kernel), List.mem_of_getElem? (i := 434) (by decide +kernel)⟩
theorem lw_p6 : lw_okq (⟨"java/lang/Throwable", "fillInStackTrace", "(I)Ljava/lang/Throwable;"⟩, 6) := ⟨⟨by decide +kernel, by decide +kernel⟩, List.mem_of_getElem? (i := 477) (by decide +kernel), List.mem_of_getElem? (i := 475) (by decide +kernel), List.mem_of_getElem? (i := 476) (by decide +kernel)⟩
theorem lw_p7 : lw_okq (⟨"NotedVolume", "checkFolder", "(I)V"⟩, 7) := ⟨⟨by decide +kernel, by decide +kernel⟩, List.mem_of_getElem? (i := 34) (by decide +kernel), List.mem_of_getElem? (i := 527) (by decide +kernel), List.mem_of_getElem? (i := 528) (by decide +kernel)⟩
theorem lw_p8 : lw_okq (⟨"NotedVolume", "liveEntry", "(I)LNotedVolume$Entry;"⟩, 7) := ⟨⟨by decide +kernel, by decide +kernel⟩, List.mem_of_getElem? (i := 34) (by decide +kernel), List.mem_of_getElem? (i := 531) (by decide +kernel), List.mem_of_getElem? (i := 532) (by decide +kernel)⟩
theorem lw_p9 : lw_okq (⟨"NotedVolume", "checkNameFree", "(III)V"⟩, 7) := ⟨⟨by decide +kernel, by decide +kernel⟩, List.mem_of_getElem? (i := 34) (by decide +kernel), List.mem_of_getElem? (i := 567) (by decide +kernel), List.mem_of_getElem? (i := 568) (by decide +kernel)⟩
theorem lw_p10 : lw_okq (⟨"NotedVolume", "noteAndDo", "(LNotedVolume$Entry;I)Z"⟩, 7) := ⟨⟨by decide +kernel, by decide +kernel⟩, List.mem_of_getElem? (i := 34) (by decide +kernel), List.mem_of_getElem? (i := 572) (by decide +kernel), List.mem_of_getElem? (i := 573) (by decide +kernel)⟩
theorem lw_p11 : lw_okq (⟨"NotedVolume", "writeChangeNote", "(LNotedVolume$Entry;I)Z"⟩, 7) := ⟨⟨by decide +kernel, by decide +kernel⟩, List.mem_of_getElem? (i := 34) (by decide +kernel), List.mem_of_getElem? (i := 576) (by decide +kernel), List.mem_of_getElem? (i := 577) (by decide +kernel)⟩
theorem lw_p12 : lw_okq (⟨"NotedVolume", "writeClosingNote", "(LNotedVolume$Gathering;)Z"⟩, 7) := ⟨⟨by decide +kernel, by decide +kernel⟩, List.mem_of_getElem? (i := 34) (by decide +kernel), List.mem_of_getElem? (i := 585) (by decide +kernel), List.mem_of_getElem? (i := 586) (by decide +kernel)⟩
theorem lw_p13 : lw_okq (⟨"NotedVolume", "spendWrite", "()Z"⟩, 7) := ⟨⟨by decide +kernel, by decide +kernel⟩, List.mem_of_getElem? (i := 34) (by decide +kernel), List.mem_of_getElem? (i := 589) (by decide +kernel), List.mem_of_getElem? (i := 590) (by decide +kernel)⟩
theorem lw_p14 : lw_okq (⟨"java/util/ArrayList", "rangeCheckForAdd", "(I)V"⟩, 3) := ⟨⟨by decide +kernel, by decide +kernel⟩, List.mem_of_getElem? (i := 48) (by decide +kernel), List.mem_of_getElem? (i := 610) (by decide +kernel), List.mem_of_getElem? (i := 611) (by decide +kernel)⟩
theorem lw_p15 : lw_okq (⟨"java/util/ArrayList", "outOfBoundsMsg", "(I)Ljava/lang/String;"⟩, 3) := ⟨⟨by decide +kernel, by decide +kernel⟩, List.mem_of_getElem? (i := 48) (by decide +kernel), List.mem_of_getElem? (i := 623) (by decide +kernel), List.mem_of_getElem? (i := 624) (by decide +kernel)⟩
def lw_privs_1 : List (MethodName × Nat) := [(⟨"java/util/ArrayList", "fastRemove", "([Ljava/lang/Object;I)V"⟩, 3), (⟨"java/util/ArrayList", "add", "(Ljava/lang/Object;[Ljava/lang/Object;I)V"⟩, 3), (⟨"java/util/ArrayList", "grow", "()[Ljava/lang/Object;"⟩, 3), (⟨"java/util/ArrayList", "grow", "(I)[Ljava/lang/Object;"⟩, 3), (⟨"NotedVolume", "endGathering", "(LNotedVolume$Gathering;)V"⟩, 7), (⟨"NotedVolume", "checkPower", "()V"⟩, 7), (⟨"java/lang/Throwable", "fillInStackTrace", "(I)Ljava/lang/Throwable;"⟩, 6), (⟨"NotedVolume", "checkFolder", "(I)V"⟩, 7), (⟨"NotedVolume", "liveEntry", "(I)LNotedVolume$Entry;"⟩, 7), (⟨"NotedVolume", "checkNameFree", "(III)V"⟩, 7), (⟨"NotedVolume", "noteAndDo", "(LNotedVolume$Entry;I)Z"⟩, 7), (⟨"NotedVolume", "writeChangeNote", "(LNotedVolume$Entry;I)Z"⟩, 7), (⟨"NotedVolume", "writeClosingNote", "(LNotedVolume$Gathering;)Z"⟩, 7), (⟨"NotedVolume", "spendWrite", "()Z"⟩, 7), (⟨"java/util/ArrayList", "rangeCheckForAdd", "(I)V"⟩, 3), (⟨"java/util/ArrayList", "outOfBoundsMsg", "(I)Ljava/lang/String;"⟩, 3)]
theorem lw_r1 : ∀ q ∈ lw_privs_1, lw_okq q := List.forall_mem_cons.mpr ⟨lw_p0, List.forall_mem_cons.mpr ⟨lw_p1, List.forall_mem_cons.mpr ⟨lw_p2, List.forall_mem_cons.mpr ⟨lw_p3, List.forall_mem_cons.mpr ⟨lw_p4, List.forall_mem_cons.mpr ⟨lw_p5, List.forall_mem_cons.mpr ⟨lw_p6, List.forall_mem_cons.mpr ⟨lw_p7, List.forall_mem_cons.mpr ⟨lw_p8, List.forall_mem_cons.mpr ⟨lw_p9, List.forall_mem_cons.mpr ⟨lw_p10, List.forall_mem_cons.mpr ⟨lw_p11, List.forall_mem_cons.mpr ⟨lw_p12, List.forall_mem_cons.mpr ⟨lw_p13, List.forall_mem_cons.mpr ⟨lw_p14, List.forall_mem_cons.mpr ⟨lw_p15, fun _ h => absurd h List.not_mem_nil⟩⟩⟩⟩⟩⟩⟩⟩⟩⟩⟩⟩⟩⟩⟩⟩
theorem lw_p16 : lw_okq (⟨"NotedVolume", "isOrLiesIn", "(II)Z"⟩, 7) := ⟨⟨by decide +kernel, by decide +kernel⟩, List.mem_of_getElem? (i := 34) (by decide +kernel), List.mem_of_getElem? (i := 879) (by decide +kernel), List.mem_of_getElem? (i := 880) (by decide +kernel)⟩
theorem lw_p17 : lw_okq (⟨"NotedVolume", "subscriberAt", "(I)LNotedVolume$Subscriber;"⟩, 7) := ⟨⟨by decide +kernel, by decide +kernel⟩, List.mem_of_getElem? (i := 34) (by decide +kernel), List.mem_of_getElem? (i := 949) (by decide +kernel), List.mem_of_getElem? (i := 950) (by decide +kernel)⟩
theorem lw_p18 : lw_okq (⟨"NotedVolume$Subscriber", "copyPage", "(LNotedVolume$FileTable;)V"⟩, 6) := ⟨⟨by decide +kernel, by decide +kernel⟩, List.mem_of_getElem? (i := 109) (by decide +kernel), List.mem_of_getElem? (i := 1027) (by decide +kernel), List.mem_of_getElem? (i := 1028) (by decide +kernel)⟩
theorem lw_p19 : lw_okq (⟨"NotedVolume$Subscriber", "copyAsItIs", "(ILNotedVolume$FileTable;)V"⟩, 6) := ⟨⟨by decide +kernel, by decide +kernel⟩, List.mem_of_getElem? (i := 109) (by decide +kernel), List.mem_of_getElem? (i := 1037) (by decide +kernel), List.mem_of_getElem? (i := 1038) (by decide +kernel)⟩
theorem lw_p20 : lw_okq (⟨"NotedVolume$Subscriber", "copyNote", "(LNotedVolume$Note;LNotedVolume$FileTable;)V"⟩, 6) := ⟨⟨by decide +kernel, by decide +kernel⟩, List.mem_of_getElem? (i := 109) (by decide +kernel), List.mem_of_getElem? (i := 1045) (by decide +kernel), List.mem_of_getElem? (i := 1046) (by decide +kernel)⟩
theorem lw_p21 : lw_okq (⟨"NotedVolumeModel", "placeOf", "(I)I"⟩, 28) := ⟨⟨by decide +kernel, by decide +kernel⟩, List.mem_of_getElem? (i := 1081) (by decide +kernel), List.mem_of_getElem? (i := 1181) (by decide +kernel), List.mem_of_getElem? (i := 1182) (by decide +kernel)⟩
theorem lw_p22 : lw_okq (⟨"NotedVolumeModel", "isFolder", "(I)Z"⟩, 28) := ⟨⟨by decide +kernel, by decide +kernel⟩, List.mem_of_getElem? (i := 1081) (by decide +kernel), List.mem_of_getElem? (i := 1185) (by decide +kernel), List.mem_of_getElem? (i := 1186) (by decide +kernel)⟩
theorem lw_p23 : lw_okq (⟨"NotedVolumeModel", "named", "(II)I"⟩, 28) := ⟨⟨by decide +kernel, by decide +kernel⟩, List.mem_of_getElem? (i := 1081) (by decide +kernel), List.mem_of_getElem? (i := 1189) (by decide +kernel), List.mem_of_getElem? (i := 1190) (by decide +kernel)⟩
theorem lw_p24 : lw_okq (⟨"NotedVolumeModel", "refused", "(ZZZZ)Z"⟩, 28) := ⟨⟨by decide +kernel, by decide +kernel⟩, List.mem_of_getElem? (i := 1081) (by decide +kernel), List.mem_of_getElem? (i := 1193) (by decide +kernel), List.mem_of_getElem? (i := 1194) (by decide +kernel)⟩
theorem lw_p25 : lw_okq (⟨"NotedVolumeModel", "opens", "(I)Z"⟩, 28) := ⟨⟨by decide +kernel, by decide +kernel⟩, List.mem_of_getElem? (i := 1081) (by decide +kernel), List.mem_of_getElem? (i := 1197) (by decide +kernel), List.mem_of_getElem? (i := 1198) (by decide +kernel)⟩
theorem lw_p26 : lw_okq (⟨"NotedVolumeModel", "gatheringOf", "(I)I"⟩, 28) := ⟨⟨by decide +kernel, by decide +kernel⟩, List.mem_of_getElem? (i := 1081) (by decide +kernel), List.mem_of_getElem? (i := 1201) (by decide +kernel), List.mem_of_getElem? (i := 1202) (by decide +kernel)⟩
theorem lw_p27 : lw_okq (⟨"NotedVolumeModel", "closeGathering", "(I)Z"⟩, 28) := ⟨⟨by decide +kernel, by decide +kernel⟩, List.mem_of_getElem? (i := 1081) (by decide +kernel), List.mem_of_getElem? (i := 1205) (by decide +kernel), List.mem_of_getElem? (i := 1206) (by decide +kernel)⟩
theorem lw_p28 : lw_okq (⟨"NotedVolumeModel", "writes", "()Z"⟩, 28) := ⟨⟨by decide +kernel, by decide +kernel⟩, List.mem_of_getElem? (i := 1081) (by decide +kernel), List.mem_of_getElem? (i := 1209) (by decide +kernel), List.mem_of_getElem? (i := 1210) (by decide +kernel)⟩
theorem lw_p29 : lw_okq (⟨"NotedVolumeModel", "noteClosing", "(II)V"⟩, 28) := ⟨⟨by decide +kernel, by decide +kernel⟩, List.mem_of_getElem? (i := 1081) (by decide +kernel), List.mem_of_getElem? (i := 1213) (by decide +kernel), List.mem_of_getElem? (i := 1214) (by decide +kernel)⟩
theorem lw_p30 : lw_okq (⟨"NotedVolumeModel", "writeNote", "(IIIIII)V"⟩, 28) := ⟨⟨by decide +kernel, by decide +kernel⟩, List.mem_of_getElem? (i := 1081) (by decide +kernel), List.mem_of_getElem? (i := 1217) (by decide +kernel), List.mem_of_getElem? (i := 1218) (by decide +kernel)⟩
theorem lw_p31 : lw_okq (⟨"NotedVolumeModel", "dropGathering", "(I)V"⟩, 28) := ⟨⟨by decide +kernel, by decide +kernel⟩, List.mem_of_getElem? (i := 1081) (by decide +kernel), List.mem_of_getElem? (i := 1221) (by decide +kernel), List.mem_of_getElem? (i := 1222) (by decide +kernel)⟩
def lw_privs_2 : List (MethodName × Nat) := [(⟨"NotedVolume", "isOrLiesIn", "(II)Z"⟩, 7), (⟨"NotedVolume", "subscriberAt", "(I)LNotedVolume$Subscriber;"⟩, 7), (⟨"NotedVolume$Subscriber", "copyPage", "(LNotedVolume$FileTable;)V"⟩, 6), (⟨"NotedVolume$Subscriber", "copyAsItIs", "(ILNotedVolume$FileTable;)V"⟩, 6), (⟨"NotedVolume$Subscriber", "copyNote", "(LNotedVolume$Note;LNotedVolume$FileTable;)V"⟩, 6), (⟨"NotedVolumeModel", "placeOf", "(I)I"⟩, 28), (⟨"NotedVolumeModel", "isFolder", "(I)Z"⟩, 28), (⟨"NotedVolumeModel", "named", "(II)I"⟩, 28), (⟨"NotedVolumeModel", "refused", "(ZZZZ)Z"⟩, 28), (⟨"NotedVolumeModel", "opens", "(I)Z"⟩, 28), (⟨"NotedVolumeModel", "gatheringOf", "(I)I"⟩, 28), (⟨"NotedVolumeModel", "closeGathering", "(I)Z"⟩, 28), (⟨"NotedVolumeModel", "writes", "()Z"⟩, 28), (⟨"NotedVolumeModel", "noteClosing", "(II)V"⟩, 28), (⟨"NotedVolumeModel", "writeNote", "(IIIIII)V"⟩, 28), (⟨"NotedVolumeModel", "dropGathering", "(I)V"⟩, 28)]
theorem lw_r2 : ∀ q ∈ lw_privs_2, lw_okq q := List.forall_mem_cons.mpr ⟨lw_p16, List.forall_mem_cons.mpr ⟨lw_p17, List.forall_mem_cons.mpr ⟨lw_p18, List.forall_mem_cons.mpr ⟨lw_p19, List.forall_mem_cons.mpr ⟨lw_p20, List.forall_mem_cons.mpr ⟨lw_p21, List.forall_mem_cons.mpr ⟨lw_p22, List.forall_mem_cons.mpr ⟨lw_p23, List.forall_mem_cons.mpr ⟨lw_p24, List.forall_mem_cons.mpr ⟨lw_p25, List.forall_mem_cons.mpr ⟨lw_p26, List.forall_mem_cons.mpr ⟨lw_p27, List.forall_mem_cons.mpr ⟨lw_p28, List.forall_mem_cons.mpr ⟨lw_p29, List.forall_mem_cons.mpr ⟨lw_p30, List.forall_mem_cons.mpr ⟨lw_p31, fun _ h => absurd h List.not_mem_nil⟩⟩⟩⟩⟩⟩⟩⟩⟩⟩⟩⟩⟩⟩⟩⟩
theorem lw_p32 : lw_okq (⟨"NotedVolumeModel", "noteChange", "(IIIIII)Z"⟩, 28) := ⟨⟨by decide +kernel, by decide +kernel⟩, List.mem_of_getElem? (i := 1081) (by decide +kernel), List.mem_of_getElem? (i := 1225) (by decide +kernel), List.mem_of_getElem? (i := 1226) (by decide +kernel)⟩
theorem lw_p33 : lw_okq (⟨"NotedVolumeModel", "isIn", "(II)Z"⟩, 28) := ⟨⟨by decide +kernel, by decide +kernel⟩, List.mem_of_getElem? (i := 1081) (by decide +kernel), List.mem_of_getElem? (i := 1237) (by decide +kernel), List.mem_of_getElem? (i := 1238) (by decide +kernel)⟩
theorem lw_p34 : lw_okq (⟨"NotedVolumeModel", "hasFiles", "(I)Z"⟩, 28) := ⟨⟨by decide +kernel, by decide +kernel⟩, List.mem_of_getElem? (i := 1081) (by decide +kernel), List.mem_of_getElem? (i := 1245) (by decide +kernel), List.mem_of_getElem? (i := 1246) (by decide +kernel)⟩
theorem lw_p35 : lw_okq (⟨"NotedVolumeModel", "tailNow", "()I"⟩, 28) := ⟨⟨by decide +kernel, by decide +kernel⟩, List.mem_of_getElem? (i := 1081) (by decide +kernel), List.mem_of_getElem? (i := 1273) (by decide +kernel), List.mem_of_getElem? (i := 1274) (by decide +kernel)⟩
theorem lw_p36 : lw_okq (⟨"NotedVolumeModel", "readBy", "(II)I"⟩, 28) := ⟨⟨by decide +kernel, by decide +kernel⟩, List.mem_of_getElem? (i := 1081) (by decide +kernel), List.mem_of_getElem? (i := 1300) (by decide +kernel), List.mem_of_getElem? (i := 1301) (by decide +kernel)⟩
theorem lw_p37 : lw_okq (⟨"NotedVolumeModel", "beginList", "(I)V"⟩, 28) := ⟨⟨by decide +kernel, by decide +kernel⟩, List.mem_of_getElem? (i := 1081) (by decide +kernel), List.mem_of_getElem? (i := 1308) (by decide +kernel), List.mem_of_getElem? (i := 1309) (by decide +kernel)⟩
theorem lw_p38 : lw_okq (⟨"NotedVolumeModel", "pageOf", "(I)I"⟩, 28) := ⟨⟨by decide +kernel, by decide +kernel⟩, List.mem_of_getElem? (i := 1081) (by decide +kernel), List.mem_of_getElem? (i := 1316) (by decide +kernel), List.mem_of_getElem? (i := 1317) (by decide +kernel)⟩
theorem lw_p39 : lw_okq (⟨"NotedVolumeModel", "placeAbove", "(I)I"⟩, 28) := ⟨⟨by decide +kernel, by decide +kernel⟩, List.mem_of_getElem? (i := 1081) (by decide +kernel), List.mem_of_getElem? (i := 1320) (by decide +kernel), List.mem_of_getElem? (i := 1321) (by decide +kernel)⟩
theorem lw_p40 : lw_okq (⟨"NotedVolumeModel", "act", "(I)Z"⟩, 28) := ⟨⟨by decide +kernel, by decide +kernel⟩, List.mem_of_getElem? (i := 1081) (by decide +kernel), List.mem_of_getElem? (i := 1332) (by decide +kernel), List.mem_of_getElem? (i := 1333) (by decide +kernel)⟩
theorem lw_p41 : lw_okq (⟨"NotedVolumeModel", "followPage", "(I)V"⟩, 28) := ⟨⟨by decide +kernel, by decide +kernel⟩, List.mem_of_getElem? (i := 1081) (by decide +kernel), List.mem_of_getElem? (i := 1336) (by decide +kernel), List.mem_of_getElem? (i := 1337) (by decide +kernel)⟩
theorem lw_p42 : lw_okq (⟨"NotedVolumeModel", "copyOut", "(II)V"⟩, 28) := ⟨⟨by decide +kernel, by decide +kernel⟩, List.mem_of_getElem? (i := 1081) (by decide +kernel), List.mem_of_getElem? (i := 1340) (by decide +kernel), List.mem_of_getElem? (i := 1341) (by decide +kernel)⟩
theorem lw_p43 : lw_okq (⟨"NotedVolumeModel", "copyNow", "(II)V"⟩, 28) := ⟨⟨by decide +kernel, by decide +kernel⟩, List.mem_of_getElem? (i := 1081) (by decide +kernel), List.mem_of_getElem? (i := 1344) (by decide +kernel), List.mem_of_getElem? (i := 1345) (by decide +kernel)⟩
theorem lw_p44 : lw_okq (⟨"NotedVolumeModel", "copyPlace", "(II)I"⟩, 28) := ⟨⟨by decide +kernel, by decide +kernel⟩, List.mem_of_getElem? (i := 1081) (by decide +kernel), List.mem_of_getElem? (i := 1348) (by decide +kernel), List.mem_of_getElem? (i := 1349) (by decide +kernel)⟩
theorem lw_p45 : lw_okq (⟨"NotedVolumeModel", "copyIn", "(IIIIII)V"⟩, 28) := ⟨⟨by decide +kernel, by decide +kernel⟩, List.mem_of_getElem? (i := 1081) (by decide +kernel), List.mem_of_getElem? (i := 1352) (by decide +kernel), List.mem_of_getElem? (i := 1353) (by decide +kernel)⟩
theorem lw_p46 : lw_okq (⟨"NotedVolumeModel", "followNote", "(II)V"⟩, 28) := ⟨⟨by decide +kernel, by decide +kernel⟩, List.mem_of_getElem? (i := 1081) (by decide +kernel), List.mem_of_getElem? (i := 1356) (by decide +kernel), List.mem_of_getElem? (i := 1357) (by decide +kernel)⟩
theorem lw_p47 : lw_okq (⟨"NotedVolumeModel", "latestOf", "(I)I"⟩, 28) := ⟨⟨by decide +kernel, by decide +kernel⟩, List.mem_of_getElem? (i := 1081) (by decide +kernel), List.mem_of_getElem? (i := 1376) (by decide +kernel), List.mem_of_getElem? (i := 1377) (by decide +kernel)⟩
def lw_privs_3 : List (MethodName × Nat) := [(⟨"NotedVolumeModel", "noteChange", "(IIIIII)Z"⟩, 28), (⟨"NotedVolumeModel", "isIn", "(II)Z"⟩, 28), (⟨"NotedVolumeModel", "hasFiles", "(I)Z"⟩, 28), (⟨"NotedVolumeModel", "tailNow", "()I"⟩, 28), (⟨"NotedVolumeModel", "readBy", "(II)I"⟩, 28), (⟨"NotedVolumeModel", "beginList", "(I)V"⟩, 28), (⟨"NotedVolumeModel", "pageOf", "(I)I"⟩, 28), (⟨"NotedVolumeModel", "placeAbove", "(I)I"⟩, 28), (⟨"NotedVolumeModel", "act", "(I)Z"⟩, 28), (⟨"NotedVolumeModel", "followPage", "(I)V"⟩, 28), (⟨"NotedVolumeModel", "copyOut", "(II)V"⟩, 28), (⟨"NotedVolumeModel", "copyNow", "(II)V"⟩, 28), (⟨"NotedVolumeModel", "copyPlace", "(II)I"⟩, 28), (⟨"NotedVolumeModel", "copyIn", "(IIIIII)V"⟩, 28), (⟨"NotedVolumeModel", "followNote", "(II)V"⟩, 28), (⟨"NotedVolumeModel", "latestOf", "(I)I"⟩, 28)]
theorem lw_r3 : ∀ q ∈ lw_privs_3, lw_okq q := List.forall_mem_cons.mpr ⟨lw_p32, List.forall_mem_cons.mpr ⟨lw_p33, List.forall_mem_cons.mpr ⟨lw_p34, List.forall_mem_cons.mpr ⟨lw_p35, List.forall_mem_cons.mpr ⟨lw_p36, List.forall_mem_cons.mpr ⟨lw_p37, List.forall_mem_cons.mpr ⟨lw_p38, List.forall_mem_cons.mpr ⟨lw_p39, List.forall_mem_cons.mpr ⟨lw_p40, List.forall_mem_cons.mpr ⟨lw_p41, List.forall_mem_cons.mpr ⟨lw_p42, List.forall_mem_cons.mpr ⟨lw_p43, List.forall_mem_cons.mpr ⟨lw_p44, List.forall_mem_cons.mpr ⟨lw_p45, List.forall_mem_cons.mpr ⟨lw_p46, List.forall_mem_cons.mpr ⟨lw_p47, fun _ h => absurd h List.not_mem_nil⟩⟩⟩⟩⟩⟩⟩⟩⟩⟩⟩⟩⟩⟩⟩⟩
theorem lw_p48 : lw_okq (⟨"NotedVolumeModel", "isFirst", "(I)Z"⟩, 28) := ⟨⟨by decide +kernel, by decide +kernel⟩, List.mem_of_getElem? (i := 1081) (by decide +kernel), List.mem_of_getElem? (i := 1380) (by decide +kernel), List.mem_of_getElem? (i := 1381) (by decide +kernel)⟩
def lw_privs_4 : List (MethodName × Nat) := [(⟨"NotedVolumeModel", "isFirst", "(I)Z"⟩, 28)]
theorem lw_r4 : ∀ q ∈ lw_privs_4, lw_okq q := List.forall_mem_cons.mpr ⟨lw_p48, fun _ h => absurd h List.not_mem_nil⟩
def lw_privs : List (MethodName × Nat) := lw_privs_1 ++ (lw_privs_2 ++ (lw_privs_3 ++ (lw_privs_4)))
def lw_tbl : List Cond := k2_sels lw_privs ++ tables_1
theorem lw_privs_ok : ∀ q ∈ lw_privs, lw_okq q := by
  show ∀ q ∈ lw_privs_1 ++ (lw_privs_2 ++ (lw_privs_3 ++ (lw_privs_4))), lw_okq q
  exact List.forall_mem_append.mpr ⟨lw_r1, List.forall_mem_append.mpr ⟨lw_r2, List.forall_mem_append.mpr ⟨lw_r3, lw_r4⟩⟩⟩
end
section
/-! the words that hold at every state of a walk; the classes; what else the claim gives -/
def xv_T : List Cond := lw_tbl.filter goodWord
theorem xv_in {w : Cond} (h : w ∈ lw_tbl) (hg : goodWord w = true) : w ∈ xv_T := List.mem_filter.mpr ⟨h, hg⟩
theorem xv_good : ∀ w ∈ xv_T, (w.onTables && w.keeps) = true ∨ ∃ ty, w = .arrayClass ty := fun w h => good_of_word (List.mem_filter.mp h).2
def tx_0 : u_T := fun k => match k with
  | 0 => ("NotedVolume", "files", "LNotedVolume$FileTable;", true)
  | 1 => ("NotedVolume", "ring", "LNotedVolume$Ring;", true)
  | 2 => ("NotedVolume", "gatherings", "LNotedVolume$Gatherings;", true)
  | 3 => ("NotedVolume", "subscribers", "[LNotedVolume$Subscriber;", true)
  | 4 => ("NotedVolume", "nextNumber", "I", false)
  | 5 => ("NotedVolume", "powered", "Z", false)
  | _ => ("NotedVolume", "writesLeft", "I", false)
def ty_0 : Nat → FieldType := fun k => match k with
  | 0 => .object "NotedVolume$FileTable"
  | 1 => .object "NotedVolume$Ring"
  | 2 => .object "NotedVolume$Gatherings"
  | 3 => .array (.object "NotedVolume$Subscriber")
  | 4 => .int
  | 5 => .boolean
  | _ => .int
def tx_1 : u_T := fun k => match k with
  | 0 => ("NotedVolume$Entry", "number", "I", true)
  | 1 => ("NotedVolume$Entry", "sort", "I", true)
  | 2 => ("NotedVolume$Entry", "parent", "I", true)
  | 3 => ("NotedVolume$Entry", "name", "I", true)
  | _ => ("NotedVolume$Entry", "mark", "I", true)
def ty_1 : Nat → FieldType := fun k => match k with
  | 0 => .int
  | 1 => .int
  | 2 => .int
  | 3 => .int
  | _ => .int
def tx_2 : u_T := fun k => match k with
  | 0 => ("NotedVolume$FileTable", "rows", "Ljava/util/ArrayList;", true)
  | _ => ("NotedVolume$FileTable", "most", "I", true)
def ty_2 : Nat → FieldType := fun k => match k with
  | 0 => .object "java/util/ArrayList"
  | _ => .int
def tx_3 : u_T := fun k => match k with
  | 0 => ("NotedVolume$Note", "entry", "LNotedVolume$Entry;", true)
  | _ => ("NotedVolume$Note", "reasons", "I", true)
def ty_3 : Nat → FieldType := fun k => match k with
  | 0 => .object "NotedVolume$Entry"
  | _ => .int
def tx_4 : u_T := fun k => match k with
  | 0 => ("NotedVolume$Ring", "cells", "[LNotedVolume$Note;", true)
  | _ => ("NotedVolume$Ring", "next", "I", false)
def ty_4 : Nat → FieldType := fun k => match k with
  | 0 => .array (.object "NotedVolume$Note")
  | _ => .int
def tx_5 : u_T := fun k => match k with
  | 0 => ("NotedVolume$Gathering", "file", "I", true)
  | _ => ("NotedVolume$Gathering", "reasons", "I", false)
def ty_5 : Nat → FieldType := fun k => match k with
  | 0 => .int
  | _ => .int
def tx_6 : u_T := fun k => match k with
  | _ => ("NotedVolume$Gatherings", "open", "Ljava/util/ArrayList;", true)
def ty_6 : Nat → FieldType := fun k => match k with
  | _ => .object "java/util/ArrayList"
def tx_7 : u_T := fun k => match k with
  | 0 => ("NotedVolume$Subscriber", "copy", "LNotedVolume$FileTable;", true)
  | 1 => ("NotedVolume$Subscriber", "pageNumbers", "[I", true)
  | 2 => ("NotedVolume$Subscriber", "cursor", "I", false)
  | 3 => ("NotedVolume$Subscriber", "mask", "I", false)
  | 4 => ("NotedVolume$Subscriber", "listing", "Z", false)
  | _ => ("NotedVolume$Subscriber", "greatestShown", "I", false)
def ty_7 : Nat → FieldType := fun k => match k with
  | 0 => .object "NotedVolume$FileTable"
  | 1 => .array .int
  | 2 => .int
  | 3 => .int
  | 4 => .boolean
  | _ => .int
def tx_8 : u_T := fun k => match k with
  | 0 => ("java/util/AbstractList", "modCount", "I", false)
  | 1 => ("java/util/ArrayList", "elementData", "[Ljava/lang/Object;", false)
  | _ => ("java/util/ArrayList", "size", "I", false)
def ty_8 : Nat → FieldType := fun k => match k with
  | 0 => .int
  | 1 => .array (.object "java/lang/Object")
  | _ => .int
def tx_9 : u_T := fun k => match k with
  | 0 => ("NotedVolumeModel", "thrown", "I", false)
  | 1 => ("NotedVolumeModel", "count", "I", false)
  | 2 => ("NotedVolumeModel", "files", "[I", true)
  | 3 => ("NotedVolumeModel", "sorts", "[I", true)
  | 4 => ("NotedVolumeModel", "parents", "[I", true)
  | 5 => ("NotedVolumeModel", "names", "[I", true)
  | 6 => ("NotedVolumeModel", "marks", "[I", true)
  | 7 => ("NotedVolumeModel", "latest", "I", false)
  | 8 => ("NotedVolumeModel", "head", "I", false)
  | 9 => ("NotedVolumeModel", "notes", "[I", true)
  | 10 => ("NotedVolumeModel", "gatherings", "I", false)
  | 11 => ("NotedVolumeModel", "gathered", "[I", true)
  | 12 => ("NotedVolumeModel", "reasons", "[I", true)
  | 13 => ("NotedVolumeModel", "off", "Z", false)
  | 14 => ("NotedVolumeModel", "left", "I", false)
  | 15 => ("NotedVolumeModel", "cursors", "[I", true)
  | 16 => ("NotedVolumeModel", "masks", "[I", true)
  | 17 => ("NotedVolumeModel", "lists", "[Z", true)
  | 18 => ("NotedVolumeModel", "lasts", "[I", true)
  | 19 => ("NotedVolumeModel", "pages", "[I", true)
  | 20 => ("NotedVolumeModel", "copies", "[I", true)
  | 21 => ("NotedVolumeModel", "copyFiles", "[I", true)
  | 22 => ("NotedVolumeModel", "copySorts", "[I", true)
  | 23 => ("NotedVolumeModel", "copyParents", "[I", true)
  | 24 => ("NotedVolumeModel", "copyNames", "[I", true)
  | 25 => ("NotedVolumeModel", "copyMarks", "[I", true)
  | 26 => ("NotedVolumeModel", "toClose", "[I", true)
  | _ => ("NotedVolumeModel", "closing", "[I", true)
def ty_9 : Nat → FieldType := fun k => match k with
  | 0 => .int
  | 1 => .int
  | 2 => .array .int
  | 3 => .array .int
  | 4 => .array .int
  | 5 => .array .int
  | 6 => .array .int
  | 7 => .int
  | 8 => .int
  | 9 => .array .int
  | 10 => .int
  | 11 => .array .int
  | 12 => .array .int
  | 13 => .boolean
  | 14 => .int
  | 15 => .array .int
  | 16 => .array .int
  | 17 => .array .boolean
  | 18 => .array .int
  | 19 => .array .int
  | 20 => .array .int
  | 21 => .array .int
  | 22 => .array .int
  | 23 => .array .int
  | 24 => .array .int
  | 25 => .array .int
  | 26 => .array .int
  | _ => .array .int
def tx_10 : u_T := fun _ => ("", "", "", false)
def ty_10 : Nat → FieldType := fun _ => .int
def tx_11 : u_T := fun _ => ("", "", "", false)
def ty_11 : Nat → FieldType := fun _ => .int
def tx_12 : u_T := fun _ => ("", "", "", false)
def ty_12 : Nat → FieldType := fun _ => .int
def tx_13 : u_T := fun _ => ("", "", "", false)
def ty_13 : Nat → FieldType := fun _ => .int
def tx_14 : u_T := fun _ => ("", "", "", false)
def ty_14 : Nat → FieldType := fun _ => .int
def xv_c : List vw_C := [("NotedVolume", tx_0, 7), ("NotedVolume$Entry", tx_1, 5), ("NotedVolume$FileTable", tx_2, 2), ("NotedVolume$Note", tx_3, 2), ("NotedVolume$Ring", tx_4, 2), ("NotedVolume$Gathering", tx_5, 2), ("NotedVolume$Gatherings", tx_6, 1), ("NotedVolume$Subscriber", tx_7, 6), ("java/util/ArrayList", tx_8, 3), ("NotedVolumeModel", tx_9, 28), ("java/lang/IllegalStateException", tx_10, 0), ("java/lang/IllegalArgumentException", tx_11, 0), ("java/util/NoSuchElementException", tx_12, 0), ("java/lang/UnsupportedOperationException", tx_13, 0), ("java/lang/IndexOutOfBoundsException", tx_14, 0)]
def xv_y : List FieldType := [.int, .long, .boolean, .object "java/lang/Object", .object "NotedVolume$Note", .object "NotedVolume$Subscriber"]
def xv_S : List (String × Nat × String) := [("NotedVolume", 241, "power is off"), ("NotedVolume", 59, "20 files live"), ("NotedVolume", 243, "0 is no name"), ("NotedVolume", 254, "the file does not live"), ("NotedVolume", 250, "the parent is no folder"), ("NotedVolume", 252, "the folder has a file of this name"), ("NotedVolume", 95, "a folder has no content"), ("NotedVolume", 111, "a folder can't lie in itself"), ("NotedVolume", 120, "files lie in it"), ("NotedVolume", 135, "no gathering of it is open"), ("NotedVolume", 247, "there is no such what"), ("NotedVolume", 165, "the note is not kept"), ("NotedVolume", 256, "there is no such subscriber"), ("NotedVolume", 176, "the mask is not 0 .. 127"), ("NotedVolume", 200, "no listing goes on"), ("NotedVolume", 210, "the number of actions is not 0 .. 40"), ("NotedVolume", 222, "it is not in the copy"), ("NotedVolume", 228, "less than NONE")]
def xv_U : List Cond := [Cond.arrayOver (.object "NotedVolume$Note"), Cond.arrayOver (.object "NotedVolume$Subscriber"), Cond.arrayOver (.object "java/lang/Object"), Cond.castable "java/lang/IllegalStateException" "java/lang/IllegalStateException", Cond.castable "java/lang/IllegalArgumentException" "java/lang/IllegalArgumentException", Cond.castable "java/util/NoSuchElementException" "java/util/NoSuchElementException", Cond.castable "java/lang/UnsupportedOperationException" "java/lang/UnsupportedOperationException", Cond.castable "java/lang/IndexOutOfBoundsException" "java/lang/IndexOutOfBoundsException", Cond.castable "NotedVolume$Entry" "NotedVolume$Entry", Cond.castable "NotedVolume$Gathering" "NotedVolume$Gathering", Cond.castable "NotedVolume" "java/lang/Object", Cond.castable "NotedVolume$FileTable" "java/lang/Object", Cond.castable "NotedVolume$Ring" "java/lang/Object", Cond.castable "NotedVolume$Gatherings" "java/lang/Object", Cond.castable "NotedVolume$Subscriber" "java/lang/Object", Cond.castable "NotedVolumeModel" "java/lang/Object", Cond.castable "NotedVolume$Entry" "java/lang/Object", Cond.castable "NotedVolume$Note" "java/lang/Object", Cond.castable "NotedVolume$Gathering" "java/lang/Object", Cond.not (Cond.castable "java/lang/IllegalStateException" "java/lang/IllegalArgumentException"), Cond.not (Cond.castable "java/lang/IllegalStateException" "java/util/NoSuchElementException"), Cond.not (Cond.castable "java/lang/IllegalStateException" "java/lang/UnsupportedOperationException"), Cond.not (Cond.castable "java/lang/IllegalStateException" "java/lang/IndexOutOfBoundsException"), Cond.not (Cond.castable "java/lang/IllegalArgumentException" "java/lang/IllegalStateException"), Cond.not (Cond.castable "java/lang/IllegalArgumentException" "java/util/NoSuchElementException"), Cond.not (Cond.castable "java/lang/IllegalArgumentException" "java/lang/UnsupportedOperationException"), Cond.not (Cond.castable "java/lang/IllegalArgumentException" "java/lang/IndexOutOfBoundsException"), Cond.not (Cond.castable "java/util/NoSuchElementException" "java/lang/IllegalStateException"), Cond.not (Cond.castable "java/util/NoSuchElementException" "java/lang/IllegalArgumentException"), Cond.not (Cond.castable "java/util/NoSuchElementException" "java/lang/UnsupportedOperationException"), Cond.not (Cond.castable "java/util/NoSuchElementException" "java/lang/IndexOutOfBoundsException"), Cond.not (Cond.castable "java/lang/UnsupportedOperationException" "java/lang/IllegalStateException"), Cond.not (Cond.castable "java/lang/UnsupportedOperationException" "java/lang/IllegalArgumentException"), Cond.not (Cond.castable "java/lang/UnsupportedOperationException" "java/util/NoSuchElementException"), Cond.not (Cond.castable "java/lang/UnsupportedOperationException" "java/lang/IndexOutOfBoundsException"), Cond.not (Cond.castable "java/lang/IndexOutOfBoundsException" "java/lang/IllegalStateException"), Cond.not (Cond.castable "java/lang/IndexOutOfBoundsException" "java/lang/IllegalArgumentException"), Cond.not (Cond.castable "java/lang/IndexOutOfBoundsException" "java/util/NoSuchElementException"), Cond.not (Cond.castable "java/lang/IndexOutOfBoundsException" "java/lang/UnsupportedOperationException"), Cond.declares ⟨"java/lang/RuntimeException", "<init>", "(Ljava/lang/String;)V"⟩, Cond.declares ⟨"java/lang/Exception", "<init>", "(Ljava/lang/String;)V"⟩, Cond.declares ⟨"java/lang/Throwable", "<init>", "(Ljava/lang/String;)V"⟩]
def xv_cz : Cond → Bool
  | .castable _ _ => true
  | .not (.castable _ _) => true
  | .arrayOver (.object _) => true
  | .declares _ => true
  | _ => false
theorem xv_U_cz : ∀ w ∈ xv_U, xv_cz w = true := by decide +kernel
theorem xv_moved {w : Cond} (hw : xv_cz w = true) {u U : State} (hvm : u.vm.Alike U.vm) (h : w.before #[] u = true) : w.before #[] U = true := by
  match w, hw with
  | .castable a b, _ => exact va_tabs rfl (rfl : (u.setVm U.vm).vm = U.vm) (by rw [Cond.castable_setVm hvm]; exact h)
  | .not (.castable a b), _ => exact Cond.castAtom_setVm hvm (.not (.castable a b)) rfl h
  | .arrayOver (.object C), _ => exact va_AO.moved hvm h
  | .declares x, _ => exact va_tabs rfl (rfl : (u.setVm U.vm).vm = U.vm) (by rw [Cond.declares_setVm hvm]; exact h)
end
section
/-! A layer over W: the heap as a function of addresses; one region [B, ..) that is the claim's own; budgets of cells and slots; a method may return or throw. -/
abbrev xa_D : Type := va_G × (Nat → ClassId)
abbrev xa_E : Type := (Nat × vp_A) ⊕ (Nat × List Value)
abbrev xa_H : Type := Nat → Option xa_E
abbrev xa_M : Type := MethodName × ByteArray × Nat × Option FieldType × List (Nat × Nat × Nat × Nat)
/-- the launch; class numbers; where the own region begins; the addresses of the empty array that lists begin with, and of the class object of arrays of objects -/
abbrev xa_G : Type := Launch × xa_D × Nat × Nat × Nat
def xa_at (D : xa_D) (a : Nat) (e : xa_E) (H : Heap) : Prop := match e with
  | .inl x => H[a]? = some (vp_cell (D.2 x.1) x.2)
  | .inr o => ∃ r : vw_C, xv_c[o.1]? = some r ∧ t_OB a (D.1.1 o.1) r.2.2 (D.1.2 o.1) H (vp_V o.2)
def xa_P (G : xa_G) (h : xa_H) (H : Heap) : Prop := (∀ (a : Nat) (e : xa_E), h a = some e → xa_at G.2.1 a e H) ∧ ∀ (q : Nat) (cell : Cell), G.2.2.1 ≤ q → H[q]? = some cell → cell.vm.isStatics = false
def xa_K (D : xa_D) (U : State) : Prop := (∀ (c : Nat) (q : vw_C), xv_c[c]? = some q → u_Kn U q.1 q.2.1 q.2.2 (D.1.1 c) (D.1.2 c)) ∧ ∀ (k : Nat) (ty : FieldType), xv_y[k]? = some ty → ArrOfT U (D.2 k) ty ∧ va_RA U (D.2 k) ty
theorem xa_K.moved {D : xa_D} {u U : State} (hvm : u.vm.Alike U.vm) (h : xa_K D u) : xa_K D U := ⟨fun c q hq => u_Kn_moved hvm (h.1 c q hq), fun k ty hk => ⟨arrOfT_moved hvm (h.2 k ty hk).1, (h.2 k ty hk).2.moved hvm⟩⟩
def xa_up (h : xa_H) (a : Nat) (e : xa_E) : xa_H := fun b => if b = a then some e else h b
theorem xa_up_eq (h : xa_H) (a : Nat) (e : xa_E) : xa_up h a e a = some e := by simp [xa_up]
theorem xa_up_ne (h : xa_H) {a b : Nat} (e : xa_E) (hn : b ≠ a) : xa_up h a e b = h b := by simp [xa_up, hn]
theorem xa_at.kept {D : xa_D} {a : Nat} {e : xa_E} {H H1 : Heap} (h : xa_at D a e H) (hq : H1[a]? = H[a]?) : xa_at D a e H1 := by
  cases e with
  | inl x => exact hq.trans h
  | inr o =>
    obtain ⟨r, h1, h2⟩ := h
    exact ⟨r, h1, h2.kept hq⟩
theorem xa_at.lt {D : xa_D} {a : Nat} {e : xa_E} {H : Heap} (h : xa_at D a e H) : a < H.size := by
  cases e with
  | inl x => exact (Array.getElem?_eq_some_iff.mp h).1
  | inr o =>
    obtain ⟨r, h1, cell, h2, -⟩ := h
    exact (Array.getElem?_eq_some_iff.mp h2).1
theorem xa_at.cell {D : xa_D} {a : Nat} {e : xa_E} {H : Heap} (h : xa_at D a e H) : ∃ cell : Cell, H[a]? = some cell ∧ cell.vm = .none := by
  cases e with
  | inl x =>
    obtain ⟨t, n, f | f | f | f | f⟩ := x <;> exact ⟨_, h, rfl⟩
  | inr o =>
    obtain ⟨r, h1, cell, h2, h3, h4, -⟩ := h
    exact ⟨cell, h2, h4⟩
theorem xa_P.lt {G : xa_G} {h : xa_H} {H : Heap} (hP : xa_P G h H) {a : Nat} {e : xa_E} (ha : h a = some e) : a < H.size := (hP.1 a e ha).lt
theorem xa_P.put {G : xa_G} {h : xa_H} {H H1 : Heap} (hP : xa_P G h H) {a : Nat} {e : xa_E} (he : xa_at G.2.1 a e H1) (oq : ∀ q : Nat, q ≠ a → H1[q]? = H[q]?) : xa_P G (xa_up h a e) H1 := by
  refine ⟨?_, ?_⟩
  · intro b e' hb
    by_cases hba : b = a
    · subst hba
      rw [xa_up_eq] at hb
      cases hb
      exact he
    · rw [xa_up_ne h e hba] at hb
      exact (hP.1 b e' hb).kept (oq b hba)
  · intro q cell hq hc
    by_cases hqa : q = a
    · subst hqa
      obtain ⟨cell', g1, g2⟩ := he.cell
      cases hc.symm.trans g1
      rw [g2]
      rfl
    · rw [oq q hqa] at hc
      exact hP.2 q cell hq hc
theorem xa_P.new {G : xa_G} {h : xa_H} {H H1 : Heap} (hP : xa_P G h H) {e : xa_E} (he : xa_at G.2.1 H.size e H1) (oq : ∀ q : Nat, q < H.size → H1[q]? = H[q]?) (hz : H1.size = H.size + 1) : xa_P G (xa_up h H.size e) H1 := by
  refine ⟨?_, ?_⟩
  · intro b e' hb
    by_cases hba : b = H.size
    · subst hba
      rw [xa_up_eq] at hb
      cases hb
      exact he
    · rw [xa_up_ne h e hba] at hb
      exact (hP.1 b e' hb).kept (oq b (hP.lt hb))
  · intro q cell hq hc
    by_cases hqa : q = H.size
    · subst hqa
      obtain ⟨cell', g1, g2⟩ := he.cell
      cases hc.symm.trans g1
      rw [g2]
      rfl
    · have hlt := (Array.getElem?_eq_some_iff.mp hc).1
      rw [oq q (by omega)] at hc
      exact hP.2 q cell hq hc
/-- locals by their place; values of one slot alone -/
def xa_L (ls : Array Slot) (n : Nat) (L : List (Option Value)) : Prop := ls.size = n ∧ lv_wf ls ∧ ∀ (i : Nat) (v : Value), L[i]? = some (some v) → ls[i]? = some (.val v) ∧ v.category = 1
def xa_prs (L : List (Option Value)) : List (Nat × Value) := (List.range L.length).filterMap (fun i => match L[i]? with
  | some (some v) => some (i, v)
  | _ => none)
theorem xa_prs_mem {L : List (Option Value)} {i : Nat} {v : Value} : (i, v) ∈ xa_prs L ↔ L[i]? = some (some v) := by
  unfold xa_prs
  rw [List.mem_filterMap]
  constructor
  · rintro ⟨j, -, hj⟩
    split at hj
    · rename_i w hw
      cases hj
      exact hw
    · cases hj
  · intro h
    refine ⟨i, List.mem_range.mpr (List.getElem?_eq_some_iff.mp h).1, ?_⟩
    rw [h]
theorem xa_L.has {ls : Array Slot} {n : Nat} {L : List (Option Value)} (h : xa_L ls n L) : lv_has ls n (xa_prs L) := ⟨h.1, h.2.1, fun q hq => (h.2.2 q.1 q.2 (xa_prs_mem.mp hq)).1⟩
theorem xa_L.at {ls : Array Slot} {n : Nat} {L : List (Option Value)} (h : xa_L ls n L) {i : Nat} {v : Value} (hi : L[i]? = some (some v)) : ls[i]? = some (.val v) := (h.2.2 i v hi).1
theorem xa_L.st {ls' : Array Slot} {n : Nat} {L : List (Option Value)} {ls : Array Slot} (h : xa_L ls n L) {i : Nat} {v : Value} (hc : v.category = 1) (h' : lv_has ls' n ((i, v) :: (xa_prs L).filter (fun q => !(q.1 == i) && !(q.1 + 1 == i && q.2.category == 2)))) : xa_L ls' n (L.set i (some v)) := by
  refine ⟨h'.1, h'.2.1, fun j w hj => ?_⟩
  by_cases hji : j = i
  · subst hji
    have hlt : j < L.length := by
      have := (List.getElem?_eq_some_iff.mp hj).1
      simpa using this
    rw [List.getElem?_set_self hlt] at hj
    cases hj
    exact ⟨h'.2.2 (j, v) List.mem_cons_self, hc⟩
  · rw [List.getElem?_set_ne (fun e => hji e.symm)] at hj
    have hw := h.2.2 j w hj
    refine ⟨h'.2.2 (j, w) (List.mem_cons_of_mem _ (List.mem_filter.mpr ⟨xa_prs_mem.mpr hj, ?_⟩)), hw.2⟩
    have h1 : (j == i) = false := by simpa using hji
    have h2 : (w.category == 2) = false := by rw [hw.2]; rfl
    simp [h1, h2]
theorem xa_args_mem : ∀ (as : List Value) (k : Nat), (∀ v ∈ as, v.category = 1) → ∀ (i : Nat) (v : Value), as[i]? = some v → (k + i, v) ∈ lv_args k as
  | [], _, _, i, v, h => by simp at h
  | a :: as, k, hc, i, v, h => by
    unfold lv_args
    have ha : a.category = 1 := hc a List.mem_cons_self
    rw [if_neg (by omega)]
    cases i with
    | zero =>
      simp at h
      subst h
      exact List.mem_cons_self
    | succ i =>
      simp at h
      have := xa_args_mem as (k + 1) (fun v hv => hc v (List.mem_cons_of_mem _ hv)) i v h
      rw [show k + (i + 1) = k + 1 + i by omega]
      exact List.mem_cons_of_mem _ this
theorem xa_sl_len : ∀ (as : List Value), (∀ v ∈ as, v.category = 1) → (lg_sl as).length = as.length
  | [], _ => rfl
  | a :: as, hc => by
    have ha : a.category = 1 := hc a List.mem_cons_self
    have ih := xa_sl_len as (fun v hv => hc v (List.mem_cons_of_mem _ hv))
    simp [lg_sl, ha] at ih ⊢
    omega
/-- the end of a walk -/
def xa_R (G : xa_G) (Q : Outcome → xa_H → Nat → Prop) (s : State) (o : Outcome) (t : State) : Prop := (∃ h, Q o h t.heap.size ∧ xa_P G h t.heap) ∧ va_F (fun q => G.2.2.1 ≤ q) s t
def xa_Q (G : xa_G) (s : State) (below : List Frame) (kc ks : Nat) (Q : Outcome → xa_H → Nat → Prop) : State → Prop := fun t =>
  ∃ o, t.status = .running ∧ Ended t below o ∧ xa_R G Q s o t ∧ ∃ L, s.WarmedH t.vm ∧ s.sameButNew ({ t with vm := s.vm } : State) L kc ks ∧ ∀ q ∈ L, G.2.2.1 ≤ q.base
def xa_tb (t : Array ExceptionTableEntry) : List (Nat × Nat × Nat × Nat) := t.toList.map fun h => (h.startPc, h.endPc, h.handlerPc, h.catchType)
/-- a static field of a reference type that nobody writes: how it lies -/
def xa_sz (C n d : String) (A : Nat → Prop) (U : State) : Prop := ∃ (v : Value) (c : ClassId) (k : Class) (i : Nat) (f : Field) (a : Nat) (cell : Cell), v.isRef = true ∧ U.vm.findClass C = some c ∧ U.fieldFound? C n d = some (c, k, i, f) ∧ f.isStatic = true ∧ k.statics = some a ∧ U.heap[a]? = some cell ∧ cell.vm.isStatics = true ∧ cell.slots[f.slot]? = some v ∧ cell.cls = c ∧ k.staticTypes[f.slot]? = some f.type ∧ ¬ A a
theorem xa_sz.to {C n d : String} {A : Nat → Prop} {s U : State} (h : xa_sz C n d A s) (hvm : s.vm.Alike U.vm) (hq : ∀ a : Nat, a < s.heap.size → ¬ A a → U.heap[a]? = s.heap[a]?) : xa_sz C n d A U := by
  obtain ⟨v, c, k, i, f, a, cell, h1, h2, h3, h4, h5, h6, h7, h8, h9, h10, h11⟩ := h
  obtain ⟨k', hi', he⟩ := State.fieldFound?_setVm hvm h3
  exact ⟨v, c, k', i, f, a, cell, h1, by rw [hvm.findClass]; exact h2, hi', h4, by rw [he]; exact h5, by rw [hq a (Array.getElem?_eq_some_iff.mp h6).1 h11]; exact h6, h7, h8, h9, by rw [he]; exact h10, h11⟩
theorem xa_sz.lays {C n d : String} {A : Nat → Prop} {U : State} (args : Array Value) (h : xa_sz C n d A U) : (Cond.laysStatic C n d).before args U = true := by
  obtain ⟨v, c, k, i, f, a, cell, h1, h2, h3, h4, h5, h6, h7, h8, h9, h10, h11⟩ := h
  have hlt : f.slot < cell.slots.size := (Array.getElem?_eq_some_iff.mp h8).1
  simp [Cond.before, Cond.holds, Cond.value, h2, h3, h4, h5, h6, h7, h9, h10, hlt]
theorem xa_sz.isRef {C n d : String} {A : Nat → Prop} {U : State} (args : Array Value) (h : xa_sz C n d A U) : (Cond.isRef (.static C n d)).before args U = true := by
  obtain ⟨v, c, k, i, f, a, cell, h1, h2, h3, h4, h5, h6, h7, h8, h9, h10, h11⟩ := h
  have e : (Term.static C n d).eval args U none [] U = some v := by simp [Term.eval, State.fieldNamed?, h3, h4, h5, h6, h7, h8]
  simp only [Cond.before, Cond.holds, Cond.value, e]
  cases v <;> first | rfl | (simp [Value.isRef] at h1)
/-- what the claim takes as given beside the tables' words: flags, texts, the empty array -/
def xa_pr (G : xa_G) (U : State) : Prop := G.1.flags = pinnedFlags ++ [noTraceFlag] ∧ (∀ x ∈ xv_S, ∃ q, vk_R x.1 x.2.1 x.2.2 q U) ∧ va_Z "java/util/ArrayList" "DEFAULTCAPACITY_EMPTY_ELEMENTDATA" "[Ljava/lang/Object;" (.ref G.2.2.2.1) (fun q => G.2.2.1 ≤ q) U U.heap ∧ (∀ w ∈ xv_U, w.before #[] U = true) ∧ xa_sz "java/lang/Throwable" "UNASSIGNED_STACK" "[Ljava/lang/StackTraceElement;" (fun q => G.2.2.1 ≤ q) U ∧ xa_sz "java/lang/Throwable" "SUPPRESSED_SENTINEL" "Ljava/util/List;" (fun q => G.2.2.1 ≤ q) U ∧ va_Dc U ∧ va_Mi "[Ljava/lang/Object;" G.2.2.2.2 U
theorem xa_pr.to {G : xa_G} {s U : State} (h : xa_pr G s) (hW : s.WarmedH U.vm) (hq : ∀ a : Nat, a < s.heap.size → ¬ G.2.2.1 ≤ a → U.heap[a]? = s.heap[a]?) : xa_pr G U := by
  obtain ⟨h1, h2, h3, h4, h5, h6, h7, h8⟩ := h
  refine ⟨h1, fun x hx => ?_, va_Z.moved hW.alike (h3.kept hq), fun w hw => xv_moved (xv_U_cz w hw) hW.alike (h4 w hw), h5.to hW.alike hq, h6.to hW.alike hq, h7.moved hW.alike, h8.moved hW.alike⟩
  obtain ⟨q, hq⟩ := h2 x hx
  exact ⟨q, hq.warm hW⟩
theorem xa_pr.same {G : xa_G} {u U : State} (hvm : U.vm = u.vm) (hh : U.heap = u.heap) (h : xa_pr G u) : xa_pr G U := by
  obtain ⟨h1, h2, h3, h4, h5, h6, h7, h8⟩ := h
  have hal : u.vm.Alike U.vm := by rw [hvm]; exact Vm.Alike.refl u.vm
  refine ⟨h1, fun x hx => ?_, ?_, fun w hw => xv_moved (xv_U_cz w hw) hal (h4 w hw), h5.to hal (fun a _ _ => by rw [hh]), h6.to hal (fun a _ _ => by rw [hh]), h7.moved hal, h8.moved hal⟩
  · obtain ⟨q, hq⟩ := h2 x hx
    exact ⟨q, vk_R.same hvm hq⟩
  · rw [hh]; exact va_Z.moved hal h3
theorem xa_pr_calling {G : xa_G} {U : State} {g : JFrame} {mk : MethodId} {a : Array Value} (h : xa_pr G U) : xa_pr G (U.calling g mk a) := xa_pr.same (u := U) (U := U.calling g mk a) rfl rfl h
/-- what holds through a method's whole walk -/
def xa_C (G : xa_G) (M : xa_M) (dp : Nat) (p : Program) (e : Env) (R : Room) (s : State) (m : MethodId) (args : Array Value) (meth : Method) (c : Code) : Prop :=
  p.tables.exec = Jvm.exec ∧ c.code = M.2.1 ∧ c.maxLocals = M.2.2.1 ∧ s.vm.findClass M.1.cls = some m.cls ∧ (∀ w ∈ xv_T, w.before args s = true) ∧ meth.sig.returnType = M.2.2.2.1 ∧ meth.locks = false ∧ meth.name = M.1.name ∧
  xa_tb c.exceptionTable = M.2.2.2.2 ∧ xa_K G.2.1 s ∧ dp ≤ R.frames ∧ 128 * dp ≤ R.locals ∧ G.2.2.1 ≤ s.heap.size ∧ xa_pr G s
def xa_W (G : xa_G) (M : xa_M) (dp kc ks pc : Nat) (L : List (Option Value)) (st : List Value) (h : xa_H) (sz : Nat) (Q : Outcome → xa_H → Nat → Prop) : Prop :=
  ∀ (p : Program) (e : Env) (R : Room) (s : State) (m : MethodId) (args : Array Value) (below : List Frame) (meth : Method) (c : Code) (H : Heap) (locs : List Loc) (cells slots : Nat) (ls : Array Slot) (kT nT : Nat),
    xa_C G M dp p e R s m args meth c → cells + kc ≤ kT → slots + ks ≤ nT → kT ≤ R.cells → nT ≤ R.slots → xa_L ls M.2.2.1 L → xa_P G h H → H.size = sz → va_S (fun q => G.2.2.1 ≤ q) s.heap H locs →
    W p G.1 e R s m args below meth c H locs cells slots (xa_Q G s below kT nT Q) (F0 m pc ls st)
theorem xa_Wmono {p : Program} {l : Launch} {e : Env} {R : Room} {s : State} {m : MethodId} {args : Array Value} {below : List Frame} {meth : Method} {c : Code} {H : Heap} {locs : List Loc} {cells slots : Nat} {Q Q' : State → Prop} {g : JFrame} (h : ∀ t, Q t → Q' t) (k : W p l e R s m args below meth c H locs cells slots Q g) : W p l e R s m args below meth c H locs cells slots Q' g := by
  intro T hT X
  obtain ⟨t, a, b⟩ := k T hT X
  exact ⟨t, a, h t b⟩
end
section
/-! the rows of the layer: an instruction each -/
section XW
variable {G : xa_G} {M : xa_M} {dp kc ks pc : Nat} {L : List (Option Value)} {st : List Value} {h : xa_H} {sz : Nat} {Q : Outcome → xa_H → Nat → Prop}
/-- an instruction that leaves heap and locals -/
theorem xw_go {pc' : Nat} {st' : List Value} (f : ∀ (p : Program) (e : Env) (R : Room) (s : State) (m : MethodId) (args : Array Value) (below : List Frame) (meth : Method) (c : Code) (H : Heap) (locs : List Loc) (cells slots : Nat) (ls : Array Slot) (Q' : State → Prop), p.tables.exec = Jvm.exec → c.code = M.2.1 → xa_L ls M.2.2.1 L →
      W p G.1 e R s m args below meth c H locs cells slots Q' (F0 m pc' ls st') → W p G.1 e R s m args below meth c H locs cells slots Q' (F0 m pc ls st)) (k : xa_W G M dp kc ks pc' L st' h sz Q) : xa_W G M dp kc ks pc L st h sz Q := by
  intro p e R s m args below meth c H locs cells slots ls kT nT C h1 h2 h3 h4 hl hP hz hS
  exact f p e R s m args below meth c H locs cells slots ls _ C.1 C.2.1 hl (k p e R s m args below meth c H locs cells slots ls kT nT C h1 h2 h3 h4 hl hP hz hS)
theorem xw_iconst {n : Int} (v : Int32) (hd : decode M.2.1 pc = .ok (.iconst n, 1)) (hv : Int32.ofInt n = v) (k : xa_W G M dp kc ks (pc + 1) L (.int v :: st) h sz Q) : xa_W G M dp kc ks pc L st h sz Q :=
  xw_go (fun _ _ _ _ _ _ _ _ _ _ _ _ _ _ _ hx hb _ => lv_iconst hx hb hd hv) k
theorem xw_bipush {n : Int} (v : Int32) (hd : decode M.2.1 pc = .ok (.bipush n, 2)) (hv : (Int8.ofInt n).toInt32 = v) (k : xa_W G M dp kc ks (pc + 2) L (.int v :: st) h sz Q) : xa_W G M dp kc ks pc L st h sz Q :=
  xw_go (fun _ _ _ _ _ _ _ _ _ _ _ _ _ _ _ hx hb _ => lv_bipush hx hb hd hv) k
theorem xw_sipush {n : Int} (v : Int32) (hd : decode M.2.1 pc = .ok (.sipush n, 3)) (hv : (Int16.ofInt n).toInt32 = v) (k : xa_W G M dp kc ks (pc + 3) L (.int v :: st) h sz Q) : xa_W G M dp kc ks pc L st h sz Q :=
  xw_go (fun _ _ _ _ _ _ _ _ _ _ _ _ _ _ _ hx hb _ => lv_sipush hx hb hd hv) k
theorem xw_lconst {n : Fin 2} (v : Int64) (hd : decode M.2.1 pc = .ok (.lconst n, 1)) (hv : Int64.ofNat (n : Nat) = v) (k : xa_W G M dp kc ks (pc + 1) L (.long v :: st) h sz Q) : xa_W G M dp kc ks pc L st h sz Q :=
  xw_go (fun _ _ _ _ _ _ _ _ _ _ _ _ _ _ _ hx hb _ => lv_lconst hx hb hd hv) k
theorem xw_null (hd : decode M.2.1 pc = .ok (.aconst_null, 1)) (k : xa_W G M dp kc ks (pc + 1) L (.null :: st) h sz Q) : xa_W G M dp kc ks pc L st h sz Q :=
  xw_go (fun _ _ _ _ _ _ _ _ _ _ _ _ _ _ _ hx hb _ => lv_null hx hb hd) k
theorem xw_iload_n {i : Fin 4} {x : Int32} (hd : decode M.2.1 pc = .ok (.iload_n i, 1)) (hi : L[(i : Nat)]? = some (some (.int x))) (k : xa_W G M dp kc ks (pc + 1) L (.int x :: st) h sz Q) : xa_W G M dp kc ks pc L st h sz Q :=
  xw_go (fun _ _ _ _ _ _ _ _ _ _ _ _ _ _ _ hx hb hl => lv_iload_n hx hb hd rfl (hl.at hi)) k
theorem xw_iload {i : Nat} {x : Int32} (hd : decode M.2.1 pc = .ok (.iload i, 2)) (hi : L[i]? = some (some (.int x))) (k : xa_W G M dp kc ks (pc + 2) L (.int x :: st) h sz Q) : xa_W G M dp kc ks pc L st h sz Q :=
  xw_go (fun _ _ _ _ _ _ _ _ _ _ _ _ _ _ _ hx hb hl => lv_iload hx hb hd (hl.at hi)) k
theorem xw_aload_n {i : Fin 4} {r : Option Nat} (hd : decode M.2.1 pc = .ok (.aload_n i, 1)) (hi : L[(i : Nat)]? = some (some (va_rf r))) (k : xa_W G M dp kc ks (pc + 1) L (va_rf r :: st) h sz Q) : xa_W G M dp kc ks pc L st h sz Q := by
  cases r with
  | none => exact xw_go (fun _ _ _ _ _ _ _ _ _ _ _ _ _ _ _ hx hb hl => lv_aload_nN hx hb hd rfl (hl.at hi)) k
  | some a => exact xw_go (fun _ _ _ _ _ _ _ _ _ _ _ _ _ _ _ hx hb hl => lv_aload_n hx hb hd rfl (hl.at hi)) k
theorem xw_aload {i : Nat} {r : Option Nat} (hd : decode M.2.1 pc = .ok (.aload i, 2)) (hi : L[i]? = some (some (va_rf r))) (k : xa_W G M dp kc ks (pc + 2) L (va_rf r :: st) h sz Q) : xa_W G M dp kc ks pc L st h sz Q := by
  cases r with
  | none => exact xw_go (fun _ _ _ _ _ _ _ _ _ _ _ _ _ _ _ hx hb hl => lv_aloadN hx hb hd (hl.at hi)) k
  | some a => exact xw_go (fun _ _ _ _ _ _ _ _ _ _ _ _ _ _ _ hx hb hl => lv_aload hx hb hd (hl.at hi)) k
/-- an instruction that sets a local -/
theorem xw_goS {pc' : Nat} {st' : List Value} {i : Nat} {v : Value} (hv : v.category = 1) (f : ∀ (p : Program) (e : Env) (R : Room) (s : State) (m : MethodId) (args : Array Value) (below : List Frame) (meth : Method) (c : Code) (H : Heap) (locs : List Loc) (cells slots : Nat) (ls : Array Slot) (Q' : State → Prop), p.tables.exec = Jvm.exec → c.code = M.2.1 → xa_L ls M.2.2.1 L →
      (∀ ls' : Array Slot, lv_has ls' M.2.2.1 ((i, v) :: (xa_prs L).filter (fun q => !(q.1 == i) && !(q.1 + 1 == i && q.2.category == 2))) → W p G.1 e R s m args below meth c H locs cells slots Q' (F0 m pc' ls' st')) → W p G.1 e R s m args below meth c H locs cells slots Q' (F0 m pc ls st)) (k : xa_W G M dp kc ks pc' (L.set i (some v)) st' h sz Q) : xa_W G M dp kc ks pc L st h sz Q := by
  intro p e R s m args below meth c H locs cells slots ls kT nT C h1 h2 h3 h4 hl hP hz hS
  exact f p e R s m args below meth c H locs cells slots ls _ C.1 C.2.1 hl (fun ls' hl' => k p e R s m args below meth c H locs cells slots ls' kT nT C h1 h2 h3 h4 (hl.st hv hl') hP hz hS)
theorem xw_istore_n {i : Fin 4} {x : Int32} (hd : decode M.2.1 pc = .ok (.istore_n i, 1)) (hn : (i : Nat) < M.2.2.1) (k : xa_W G M dp kc ks (pc + 1) (L.set i (some (.int x))) st h sz Q) : xa_W G M dp kc ks pc L (.int x :: st) h sz Q :=
  xw_goS rfl (fun _ _ _ _ _ _ _ _ _ _ _ _ _ _ _ hx hb hl kk => lv_istore_n hx hb hd rfl hl.has hn rfl kk) k
theorem xw_istore {i : Nat} {x : Int32} (hd : decode M.2.1 pc = .ok (.istore i, 2)) (hn : i < M.2.2.1) (k : xa_W G M dp kc ks (pc + 2) (L.set i (some (.int x))) st h sz Q) : xa_W G M dp kc ks pc L (.int x :: st) h sz Q :=
  xw_goS rfl (fun _ _ _ _ _ _ _ _ _ _ _ _ _ _ _ hx hb hl kk => lv_istore hx hb hd hl.has hn rfl kk) k
theorem xw_astore_n {i : Fin 4} {r : Option Nat} (hd : decode M.2.1 pc = .ok (.astore_n i, 1)) (hn : (i : Nat) < M.2.2.1) (k : xa_W G M dp kc ks (pc + 1) (L.set i (some (va_rf r))) st h sz Q) : xa_W G M dp kc ks pc L (va_rf r :: st) h sz Q := by
  cases r with
  | none => exact xw_goS (v := .null) rfl (fun _ _ _ _ _ _ _ _ _ _ _ _ _ _ _ hx hb hl kk => lv_astore_nN hx hb hd rfl hl.has hn rfl kk) k
  | some a => exact xw_goS (v := .ref a) rfl (fun _ _ _ _ _ _ _ _ _ _ _ _ _ _ _ hx hb hl kk => lv_astore_n hx hb hd rfl hl.has hn rfl kk) k
theorem xw_astore {i : Nat} {r : Option Nat} (hd : decode M.2.1 pc = .ok (.astore i, 2)) (hn : i < M.2.2.1) (k : xa_W G M dp kc ks (pc + 2) (L.set i (some (va_rf r))) st h sz Q) : xa_W G M dp kc ks pc L (va_rf r :: st) h sz Q := by
  cases r with
  | none => exact xw_goS (v := .null) rfl (fun _ _ _ _ _ _ _ _ _ _ _ _ _ _ _ hx hb hl kk => lv_astoreN hx hb hd hl.has hn rfl kk) k
  | some a => exact xw_goS (v := .ref a) rfl (fun _ _ _ _ _ _ _ _ _ _ _ _ _ _ _ hx hb hl kk => lv_astore hx hb hd hl.has hn rfl kk) k
theorem xw_iinc {i : Nat} {n : Int} {x v : Int32} (hd : decode M.2.1 pc = .ok (.iinc i n, 3)) (hi : L[i]? = some (some (.int x))) (hv : x + Int32.ofInt n = v) (hn : i < M.2.2.1) (k : xa_W G M dp kc ks (pc + 3) (L.set i (some (.int v))) st h sz Q) : xa_W G M dp kc ks pc L st h sz Q :=
  xw_goS rfl (fun _ _ _ _ _ _ _ _ _ _ _ _ _ _ _ hx hb hl kk => by
    obtain ⟨j, hj⟩ := List.getElem?_of_mem (xa_prs_mem.mpr hi)
    exact lv_iinc hx hb hd hl.has hj hv hn rfl kk) k
theorem xw_iadd {x y : Int32} (hd : decode M.2.1 pc = .ok (.iadd, 1)) (k : xa_W G M dp kc ks (pc + 1) L (.int (x + y) :: st) h sz Q) : xa_W G M dp kc ks pc L (.int y :: .int x :: st) h sz Q :=
  xw_go (fun _ _ _ _ _ _ _ _ _ _ _ _ _ _ _ hx hb _ => lv_iadd hx hb hd) k
theorem xw_isub {x y : Int32} (hd : decode M.2.1 pc = .ok (.isub, 1)) (k : xa_W G M dp kc ks (pc + 1) L (.int (x - y) :: st) h sz Q) : xa_W G M dp kc ks pc L (.int y :: .int x :: st) h sz Q :=
  xw_go (fun _ _ _ _ _ _ _ _ _ _ _ _ _ _ _ hx hb _ => lv_isub hx hb hd) k
theorem xw_imul {x y : Int32} (hd : decode M.2.1 pc = .ok (.imul, 1)) (k : xa_W G M dp kc ks (pc + 1) L (.int (x * y) :: st) h sz Q) : xa_W G M dp kc ks pc L (.int y :: .int x :: st) h sz Q :=
  xw_go (fun _ _ _ _ _ _ _ _ _ _ _ _ _ _ _ hx hb _ => lv_imul hx hb hd) k
theorem xw_iand {x y : Int32} (hd : decode M.2.1 pc = .ok (.iand, 1)) (k : xa_W G M dp kc ks (pc + 1) L (.int (x &&& y) :: st) h sz Q) : xa_W G M dp kc ks pc L (.int y :: .int x :: st) h sz Q :=
  xw_go (fun _ _ _ _ _ _ _ _ _ _ _ _ _ _ _ hx hb _ => lv_iand hx hb hd) k
theorem xw_ior {x y : Int32} (hd : decode M.2.1 pc = .ok (.ior, 1)) (k : xa_W G M dp kc ks (pc + 1) L (.int (x ||| y) :: st) h sz Q) : xa_W G M dp kc ks pc L (.int y :: .int x :: st) h sz Q :=
  xw_go (fun _ _ _ _ _ _ _ _ _ _ _ _ _ _ _ hx hb _ => lv_ior hx hb hd) k
theorem xw_irem {x y : Int32} (hd : decode M.2.1 pc = .ok (.irem, 1)) (hy : ¬ y = 0) (k : xa_W G M dp kc ks (pc + 1) L (.int (x - x / y * y) :: st) h sz Q) : xa_W G M dp kc ks pc L (.int y :: .int x :: st) h sz Q :=
  xw_go (fun _ _ _ _ _ _ _ _ _ _ _ _ _ _ _ hx hb _ => lv_irem hx hb hd hy) k
theorem xw_i2l {x : Int32} (hd : decode M.2.1 pc = .ok (.i2l, 1)) (k : xa_W G M dp kc ks (pc + 1) L (.long x.toInt64 :: st) h sz Q) : xa_W G M dp kc ks pc L (.int x :: st) h sz Q :=
  xw_go (fun _ _ _ _ _ _ _ _ _ _ _ _ _ _ _ hx hb _ => lv_i2l hx hb hd rfl) k
theorem xw_lcmp {x y : Int64} (hd : decode M.2.1 pc = .ok (.lcmp, 1)) (k : xa_W G M dp kc ks (pc + 1) L (.int (lg_cmp x y) :: st) h sz Q) : xa_W G M dp kc ks pc L (.long y :: .long x :: st) h sz Q :=
  xw_go (fun _ _ _ _ _ _ _ _ _ _ _ _ _ _ _ hx hb _ => W.lcmp hx hb hd) k
theorem xw_dup {v : Value} (hd : decode M.2.1 pc = .ok (.dup, 1)) (hv : v.category = 1) (k : xa_W G M dp kc ks (pc + 1) L (v :: v :: st) h sz Q) : xa_W G M dp kc ks pc L (v :: st) h sz Q :=
  xw_go (fun _ _ _ _ _ _ _ _ _ _ _ _ _ _ _ hx hb _ => lv_dup hx hb hd hv) k
theorem xw_dup2 {v w : Value} (hd : decode M.2.1 pc = .ok (.dup2, 1)) (hv : v.category = 1) (hw : w.category = 1) (k : xa_W G M dp kc ks (pc + 1) L (v :: w :: v :: w :: st) h sz Q) : xa_W G M dp kc ks pc L (v :: w :: st) h sz Q :=
  xw_go (fun _ _ _ _ _ _ _ _ _ _ _ _ _ _ _ hx hb _ => lv_dup2_11 hx hb hd hv hw) k
theorem xw_dup_x1 {v w : Value} (hd : decode M.2.1 pc = .ok (.dup_x1, 1)) (hv : v.category = 1) (hw : w.category = 1) (k : xa_W G M dp kc ks (pc + 1) L (v :: w :: v :: st) h sz Q) : xa_W G M dp kc ks pc L (v :: w :: st) h sz Q :=
  xw_go (fun _ _ _ _ _ _ _ _ _ _ _ _ _ _ _ hx hb _ => lv_dup_x1 hx hb hd hv hw) k
theorem xw_pop {v : Value} (hd : decode M.2.1 pc = .ok (.pop, 1)) (hv : v.category = 1) (k : xa_W G M dp kc ks (pc + 1) L st h sz Q) : xa_W G M dp kc ks pc L (v :: st) h sz Q :=
  xw_go (fun _ _ _ _ _ _ _ _ _ _ _ _ _ _ _ hx hb _ => lv_pop hx hb hd hv) k
theorem xw_goto {off : Int} (tgt : Nat) (hd : decode M.2.1 pc = .ok (.goto off, 3)) (ht : (pc : Int) + off = (tgt : Int)) (k : xa_W G M dp kc ks tgt L st h sz Q) : xa_W G M dp kc ks pc L st h sz Q :=
  xw_go (fun _ _ _ _ _ _ _ _ _ _ _ _ _ _ _ hx hb _ => lv_goto hx hb hd ht) k
/-- two roads -/
theorem xw_two {c : Prop} {pa pb : Nat} {st' : List Value} (f : ∀ (p : Program) (e : Env) (R : Room) (s : State) (m : MethodId) (args : Array Value) (below : List Frame) (meth : Method) (c' : Code) (H : Heap) (locs : List Loc) (cells slots : Nat) (ls : Array Slot) (Q' : State → Prop), p.tables.exec = Jvm.exec → c'.code = M.2.1 →
      (c → W p G.1 e R s m args below meth c' H locs cells slots Q' (F0 m pa ls st')) → (¬ c → W p G.1 e R s m args below meth c' H locs cells slots Q' (F0 m pb ls st')) → W p G.1 e R s m args below meth c' H locs cells slots Q' (F0 m pc ls st)) (ka : c → xa_W G M dp kc ks pa L st' h sz Q) (kb : ¬ c → xa_W G M dp kc ks pb L st' h sz Q) : xa_W G M dp kc ks pc L st h sz Q := by
  intro p e R s m args below meth c' H locs cells slots ls kT nT C h1 h2 h3 h4 hl hP hz hS
  exact f p e R s m args below meth c' H locs cells slots ls _ C.1 C.2.1 (fun q => ka q p e R s m args below meth c' H locs cells slots ls kT nT C h1 h2 h3 h4 hl hP hz hS) (fun q => kb q p e R s m args below meth c' H locs cells slots ls kT nT C h1 h2 h3 h4 hl hP hz hS)
theorem xw_if_eq {x : Int32} {off : Int} (tgt : Nat) (hd : decode M.2.1 pc = .ok (.ifCond .eq off, 3)) (ht : (pc : Int) + off = (tgt : Int)) (ka : x = 0 → xa_W G M dp kc ks tgt L st h sz Q) (kb : ¬ x = 0 → xa_W G M dp kc ks (pc + 3) L st h sz Q) : xa_W G M dp kc ks pc L (.int x :: st) h sz Q :=
  xw_two (fun _ _ _ _ _ _ _ _ _ _ _ _ _ _ _ hx hb => lv_if_eq hx hb hd ht) ka kb
theorem xw_icmp_eq {x y : Int32} {off : Int} (tgt : Nat) (hd : decode M.2.1 pc = .ok (.if_icmp .eq off, 3)) (ht : (pc : Int) + off = (tgt : Int)) (ka : x = y → xa_W G M dp kc ks tgt L st h sz Q) (kb : ¬ x = y → xa_W G M dp kc ks (pc + 3) L st h sz Q) : xa_W G M dp kc ks pc L (.int y :: .int x :: st) h sz Q :=
  xw_two (fun _ _ _ _ _ _ _ _ _ _ _ _ _ _ _ hx hb => lv_icmp_eq hx hb hd ht) ka kb
theorem xw_if_lt {x : Int32} {off : Int} (tgt : Nat) (hd : decode M.2.1 pc = .ok (.ifCond .lt off, 3)) (ht : (pc : Int) + off = (tgt : Int)) (ka : x < 0 → xa_W G M dp kc ks tgt L st h sz Q) (kb : ¬ x < 0 → xa_W G M dp kc ks (pc + 3) L st h sz Q) : xa_W G M dp kc ks pc L (.int x :: st) h sz Q :=
  xw_two (fun _ _ _ _ _ _ _ _ _ _ _ _ _ _ _ hx hb => lv_if_lt hx hb hd ht) ka kb
theorem xw_icmp_lt {x y : Int32} {off : Int} (tgt : Nat) (hd : decode M.2.1 pc = .ok (.if_icmp .lt off, 3)) (ht : (pc : Int) + off = (tgt : Int)) (ka : x < y → xa_W G M dp kc ks tgt L st h sz Q) (kb : ¬ x < y → xa_W G M dp kc ks (pc + 3) L st h sz Q) : xa_W G M dp kc ks pc L (.int y :: .int x :: st) h sz Q :=
  xw_two (fun _ _ _ _ _ _ _ _ _ _ _ _ _ _ _ hx hb => lv_icmp_lt hx hb hd ht) ka kb
theorem xw_if_ge {x : Int32} {off : Int} (tgt : Nat) (hd : decode M.2.1 pc = .ok (.ifCond .ge off, 3)) (ht : (pc : Int) + off = (tgt : Int)) (ka : 0 ≤ x → xa_W G M dp kc ks tgt L st h sz Q) (kb : ¬ 0 ≤ x → xa_W G M dp kc ks (pc + 3) L st h sz Q) : xa_W G M dp kc ks pc L (.int x :: st) h sz Q :=
  xw_two (fun _ _ _ _ _ _ _ _ _ _ _ _ _ _ _ hx hb => lv_if_ge hx hb hd ht) ka kb
theorem xw_icmp_ge {x y : Int32} {off : Int} (tgt : Nat) (hd : decode M.2.1 pc = .ok (.if_icmp .ge off, 3)) (ht : (pc : Int) + off = (tgt : Int)) (ka : y ≤ x → xa_W G M dp kc ks tgt L st h sz Q) (kb : ¬ y ≤ x → xa_W G M dp kc ks (pc + 3) L st h sz Q) : xa_W G M dp kc ks pc L (.int y :: .int x :: st) h sz Q :=
  xw_two (fun _ _ _ _ _ _ _ _ _ _ _ _ _ _ _ hx hb => lv_icmp_ge hx hb hd ht) ka kb
theorem xw_if_gt {x : Int32} {off : Int} (tgt : Nat) (hd : decode M.2.1 pc = .ok (.ifCond .gt off, 3)) (ht : (pc : Int) + off = (tgt : Int)) (ka : 0 < x → xa_W G M dp kc ks tgt L st h sz Q) (kb : ¬ 0 < x → xa_W G M dp kc ks (pc + 3) L st h sz Q) : xa_W G M dp kc ks pc L (.int x :: st) h sz Q :=
  xw_two (fun _ _ _ _ _ _ _ _ _ _ _ _ _ _ _ hx hb => lv_if_gt hx hb hd ht) ka kb
theorem xw_icmp_gt {x y : Int32} {off : Int} (tgt : Nat) (hd : decode M.2.1 pc = .ok (.if_icmp .gt off, 3)) (ht : (pc : Int) + off = (tgt : Int)) (ka : y < x → xa_W G M dp kc ks tgt L st h sz Q) (kb : ¬ y < x → xa_W G M dp kc ks (pc + 3) L st h sz Q) : xa_W G M dp kc ks pc L (.int y :: .int x :: st) h sz Q :=
  xw_two (fun _ _ _ _ _ _ _ _ _ _ _ _ _ _ _ hx hb => lv_icmp_gt hx hb hd ht) ka kb
theorem xw_if_le {x : Int32} {off : Int} (tgt : Nat) (hd : decode M.2.1 pc = .ok (.ifCond .le off, 3)) (ht : (pc : Int) + off = (tgt : Int)) (ka : x ≤ 0 → xa_W G M dp kc ks tgt L st h sz Q) (kb : ¬ x ≤ 0 → xa_W G M dp kc ks (pc + 3) L st h sz Q) : xa_W G M dp kc ks pc L (.int x :: st) h sz Q :=
  xw_two (fun _ _ _ _ _ _ _ _ _ _ _ _ _ _ _ hx hb => lv_if_le hx hb hd ht) ka kb
theorem xw_icmp_le {x y : Int32} {off : Int} (tgt : Nat) (hd : decode M.2.1 pc = .ok (.if_icmp .le off, 3)) (ht : (pc : Int) + off = (tgt : Int)) (ka : x ≤ y → xa_W G M dp kc ks tgt L st h sz Q) (kb : ¬ x ≤ y → xa_W G M dp kc ks (pc + 3) L st h sz Q) : xa_W G M dp kc ks pc L (.int y :: .int x :: st) h sz Q :=
  xw_two (fun _ _ _ _ _ _ _ _ _ _ _ _ _ _ _ hx hb => lv_icmp_le hx hb hd ht) ka kb
theorem xw_if_ne {x : Int32} {off : Int} (tgt : Nat) (hd : decode M.2.1 pc = .ok (.ifCond .ne off, 3)) (ht : (pc : Int) + off = (tgt : Int)) (ka : ¬ x = 0 → xa_W G M dp kc ks tgt L st h sz Q) (kb : x = 0 → xa_W G M dp kc ks (pc + 3) L st h sz Q) : xa_W G M dp kc ks pc L (.int x :: st) h sz Q :=
  xw_two (c := ¬ x = 0) (fun _ _ _ _ _ _ _ _ _ _ _ _ _ _ _ hx hb a b => lv_if_ne hx hb hd ht a (fun q => b (fun r => r q))) ka (fun q => kb (Classical.not_not.mp q))
theorem xw_icmp_ne {x y : Int32} {off : Int} (tgt : Nat) (hd : decode M.2.1 pc = .ok (.if_icmp .ne off, 3)) (ht : (pc : Int) + off = (tgt : Int)) (ka : ¬ x = y → xa_W G M dp kc ks tgt L st h sz Q) (kb : x = y → xa_W G M dp kc ks (pc + 3) L st h sz Q) : xa_W G M dp kc ks pc L (.int y :: .int x :: st) h sz Q :=
  xw_two (c := ¬ x = y) (fun _ _ _ _ _ _ _ _ _ _ _ _ _ _ _ hx hb a b => lv_icmp_ne hx hb hd ht a (fun q => b (fun r => r q))) ka (fun q => kb (Classical.not_not.mp q))
theorem xw_ifnull {r : Option Nat} {off : Int} (tgt : Nat) (hd : decode M.2.1 pc = .ok (.ifnull off, 3)) (ht : (pc : Int) + off = (tgt : Int)) (ka : r = none → xa_W G M dp kc ks tgt L st h sz Q) (kb : ∀ a, r = some a → xa_W G M dp kc ks (pc + 3) L st h sz Q) : xa_W G M dp kc ks pc L (va_rf r :: st) h sz Q := by
  cases r with
  | none => exact xw_go (fun _ _ _ _ _ _ _ _ _ _ _ _ _ _ _ hx hb _ => lv_ifnullN hx hb hd ht) (ka rfl)
  | some a => exact xw_go (fun _ _ _ _ _ _ _ _ _ _ _ _ _ _ _ hx hb _ => lv_ifnull hx hb hd) (kb a rfl)
theorem xw_ifnonnull {r : Option Nat} {off : Int} (tgt : Nat) (hd : decode M.2.1 pc = .ok (.ifnonnull off, 3)) (ht : (pc : Int) + off = (tgt : Int)) (ka : ∀ a, r = some a → xa_W G M dp kc ks tgt L st h sz Q) (kb : r = none → xa_W G M dp kc ks (pc + 3) L st h sz Q) : xa_W G M dp kc ks pc L (va_rf r :: st) h sz Q := by
  cases r with
  | none => exact xw_go (fun _ _ _ _ _ _ _ _ _ _ _ _ _ _ _ hx hb _ => lv_ifnonnullN hx hb hd) (kb rfl)
  | some a => exact xw_go (fun _ _ _ _ _ _ _ _ _ _ _ _ _ _ _ hx hb _ => lv_ifnonnull hx hb hd ht) (ka a rfl)
theorem xw_acmp_eq {rx ry : Option Nat} {off : Int} (tgt : Nat) (hd : decode M.2.1 pc = .ok (.if_acmp .eq off, 3)) (ht : (pc : Int) + off = (tgt : Int)) (ka : rx = ry → xa_W G M dp kc ks tgt L st h sz Q) (kb : ¬ rx = ry → xa_W G M dp kc ks (pc + 3) L st h sz Q) : xa_W G M dp kc ks pc L (va_rf ry :: va_rf rx :: st) h sz Q :=
  xw_two (fun _ _ _ _ _ _ _ _ _ _ _ _ _ _ _ hx hb => lv_acmp_eq hx hb hd ht) ka kb
theorem xw_acmp_ne {rx ry : Option Nat} {off : Int} (tgt : Nat) (hd : decode M.2.1 pc = .ok (.if_acmp .ne off, 3)) (ht : (pc : Int) + off = (tgt : Int)) (ka : ¬ rx = ry → xa_W G M dp kc ks tgt L st h sz Q) (kb : rx = ry → xa_W G M dp kc ks (pc + 3) L st h sz Q) : xa_W G M dp kc ks pc L (va_rf ry :: va_rf rx :: st) h sz Q :=
  xw_two (c := ¬ rx = ry) (fun _ _ _ _ _ _ _ _ _ _ _ _ _ _ _ hx hb a b => lv_acmp_ne hx hb hd ht a (fun q => b (fun r => r q))) ka (fun q => kb (Classical.not_not.mp q))
theorem xw_lookup {dflt : Int} {ps : Array (Int × Int)} {len : Nat} {x : Int32} {off : Int} (tgt : Nat) (hd : decode M.2.1 pc = .ok (.lookupswitch dflt ps, len)) (hp : (ps.toList.zip (ps.toList.drop 1)).all (fun (a, next) => a.1 < next.1) = true) (ho : Op.lookupswitch.offset ps.toList dflt x.toInt = off) (ht : (pc : Int) + off = (tgt : Int)) (k : xa_W G M dp kc ks tgt L st h sz Q) : xa_W G M dp kc ks pc L (.int x :: st) h sz Q :=
  xw_go (fun _ _ _ _ _ _ _ _ _ _ _ _ _ _ _ hx hb _ => lv_lookup hx hb hd hp ho ht) k
theorem xw_tableOut {dflt lo hi : Int} {offs : Array Int} {len : Nat} {x : Int32} (tgt : Nat) (hd : decode M.2.1 pc = .ok (.tableswitch dflt lo hi offs, len)) (hx : x.toInt < lo ∨ hi < x.toInt) (ht : (pc : Int) + dflt = (tgt : Int)) (k : xa_W G M dp kc ks tgt L st h sz Q) : xa_W G M dp kc ks pc L (.int x :: st) h sz Q :=
  xw_go (fun _ _ _ _ _ _ _ _ _ _ _ _ _ _ _ hx' hb _ => lv_tableOut hx' hb hd hx ht) k
theorem xw_tableIn {dflt lo hi : Int} {offs : Array Int} {len : Nat} {x : Int32} {off : Int} (tgt : Nat) (hd : decode M.2.1 pc = .ok (.tableswitch dflt lo hi offs, len)) (h1 : ¬ x.toInt < lo) (h2 : ¬ hi < x.toInt) (ho : offs[(x.toInt - lo).toNat]? = some off) (ht : (pc : Int) + off = (tgt : Int)) (k : xa_W G M dp kc ks tgt L st h sz Q) : xa_W G M dp kc ks pc L (.int x :: st) h sz Q :=
  xw_go (fun _ _ _ _ _ _ _ _ _ _ _ _ _ _ _ hx hb _ => lv_tableIn hx hb hd h1 h2 ho ht) k
/-- roads that meet -/
theorem xw_dia {pj : Nat} {stj : List Value} {Lj : List (Option Value)} (v : Value) (main : xa_W G M dp kc ks pj Lj (v :: stj) h sz Q) (arms : (∀ w, w = v → xa_W G M dp kc ks pj Lj (w :: stj) h sz Q) → xa_W G M dp kc ks pc L st h sz Q) : xa_W G M dp kc ks pc L st h sz Q := arms (fun w hw => hw ▸ main)
/-- ends -/
theorem xw_ends {v : Option Value} (f : ∀ (p : Program) (e : Env) (R : Room) (s : State) (m : MethodId) (args : Array Value) (below : List Frame) (meth : Method) (c : Code) (H : Heap) (locs : List Loc) (cells slots : Nat) (ls : Array Slot) (Qc : Array Value → State → Outcome → State → Prop) (free : Addr → Prop), p.tables.exec = Jvm.exec → c.code = M.2.1 → meth.sig.returnType = M.2.2.2.1 → meth.locks = false →
      (∀ t : State, t.heap = H → s.WarmedH t.vm → Qc args s (.returned v) t) → (∀ q ∈ locs, free q.base) → W p G.1 e R s m args below meth c H locs cells slots (MQ below Qc args s cells slots free) (F0 m pc ls st)) (hq : Q (.returned v) h sz) : xa_W G M dp kc ks pc L st h sz Q := by
  intro p e R s m args below meth c H locs cells slots ls kT nT C h1 h2 h3 h4 hl hP hz hS
  obtain ⟨hx, hb, -, -, -, hr, hk, -⟩ := C
  refine xa_Wmono ?_ (f p e R s m args below meth c H locs cells slots ls (fun _ st' o t => xa_R G Q st' o t) (fun q => G.2.2.1 ≤ q) hx hb hr hk (fun t ht _ => ⟨⟨h, by rw [ht, hz]; exact hq, by rw [ht]; exact hP⟩, hS.F ht⟩) hS.2.2)
  rintro t ⟨o, a1, a2, a3, L', ⟨-, a4, a5⟩, a6⟩
  exact ⟨o, a1, a2, a3, L', a4, a5.mono (by omega) (by omega), a6⟩
theorem xw_iret {v : Int32} (hd : decode M.2.1 pc = .ok (.ireturn, 1)) (hr : M.2.2.2.1 = some .int) (hq : Q (.returned (some (.int v))) h sz) : xa_W G M dp kc ks pc L [.int v] h sz Q :=
  xw_ends (fun _ _ _ _ _ _ _ _ _ _ _ _ _ _ _ _ hx hb hr' hk a b => W.iret hx hb (hr'.trans hr) a b hd hk) hq
theorem xw_zret {v : Int32} (hd : decode M.2.1 pc = .ok (.ireturn, 1)) (hr : M.2.2.2.1 = some .boolean) (hn : narrow .boolean (.int v) = .int v) (hq : Q (.returned (some (.int v))) h sz) : xa_W G M dp kc ks pc L [.int v] h sz Q :=
  xw_ends (fun _ _ _ _ _ _ _ _ _ _ _ _ _ _ _ _ hx hb hr' hk a b => W.zret hx hb (hr'.trans hr) hn a b hd hk) hq
theorem xw_vret (hd : decode M.2.1 pc = .ok (.return_, 1)) (hr : M.2.2.2.1 = none) (hq : Q (.returned none) h sz) : xa_W G M dp kc ks pc L [] h sz Q :=
  xw_ends (fun _ _ _ _ _ _ _ _ _ _ _ _ _ _ _ _ hx hb hr' hk a b => W.vret hx hb (hr'.trans hr) a b hd hk) hq
theorem xw_aret {rt : FieldType} {r : Option Nat} (hd : decode M.2.1 pc = .ok (.areturn, 1)) (hr : M.2.2.2.1 = some rt) (hrt : (∃ n, rt = .object n) ∨ ∃ t, rt = .array t) (hq : Q (.returned (some (va_rf r))) h sz) : xa_W G M dp kc ks pc L [va_rf r] h sz Q :=
  xw_ends (fun _ _ _ _ _ _ _ _ _ _ _ _ _ _ _ _ hx hb hr' hk a b => W.aret hx hb (hr'.trans hr) hrt (by cases r with
    | none => exact Or.inl rfl
    | some x => exact Or.inr ⟨x, rfl⟩) a b hd hk) hq
/-- budgets -/
theorem xw_less {kc' ks' : Nat} (hc : kc' ≤ kc) (hs : ks' ≤ ks) (k : xa_W G M dp kc' ks' pc L st h sz Q) : xa_W G M dp kc ks pc L st h sz Q := by
  intro p e R s m args below meth c H locs cells slots ls kT nT C h1 h2 h3 h4 hl hP hz hS
  exact k p e R s m args below meth c H locs cells slots ls kT nT C (by omega) (by omega) h3 h4 hl hP hz hS
theorem xw_mono {Q' : Outcome → xa_H → Nat → Prop} (hQ : ∀ o h z, Q' o h z → Q o h z) (k : xa_W G M dp kc ks pc L st h sz Q') : xa_W G M dp kc ks pc L st h sz Q := by
  intro p e R s m args below meth c H locs cells slots ls kT nT C h1 h2 h3 h4 hl hP hz hS
  refine xa_Wmono ?_ (k p e R s m args below meth c H locs cells slots ls kT nT C h1 h2 h3 h4 hl hP hz hS)
  rintro t ⟨o, a1, a2, ⟨⟨h', a3, a4⟩, a5⟩, a6⟩
  exact ⟨o, a1, a2, ⟨⟨h', hQ _ _ _ a3, a4⟩, a5⟩, a6⟩
end XW
end
section
/-! fields, arrays, new cells -/
def xa_F (own : String) (index ci k : Nat) : Prop := ∃ (C : String) (T : u_T) (N : Nat) (ref : String), xv_c[ci]? = some (C, T, N) ∧ k < N ∧ (∀ w ∈ u_ws C T N, w ∈ xv_T) ∧ Cond.fieldLink own index ref (T k).2.1 (T k).2.2.1 ∈ xv_T ∧ (ref = (T k).1 ∨ Cond.sameField ref (T k).1 (T k).2.1 (T k).2.2.1 ∈ xv_T)
def xa_Z (ci k : Nat) (ty : FieldType) (fin : Bool) (own : String) : Prop := ∃ (C : String) (T : u_T) (N : Nat) (ty0 : Nat → FieldType), xv_c[ci]? = some (C, T, N) ∧ (∀ k, k < N → parseFieldDescriptor (T k).2.2.1 = some (ty0 k)) ∧ (∀ a, a < N → ∀ b, b < N → a ≠ b → (T a).2.1 ≠ (T b).2.1) ∧ ty0 k = ty ∧ (T k).2.2.2 = fin ∧ (fin = true → (T k).1 = own)
def xa_N (own : String) (index ci : Nat) (fs : List Value) : Prop := ∃ (C : String) (T : u_T) (N : Nat) (ty0 : Nat → FieldType), xv_c[ci]? = some (C, T, N) ∧ fs.length = N ∧ (∀ k, k < N → parseFieldDescriptor (T k).2.2.1 = some (ty0 k)) ∧ (∀ k, k < N → defaultValue (ty0 k) = vp_V fs k) ∧ (∀ w ∈ u_ws C T N, w ∈ xv_T) ∧ Cond.classLink own index C ∈ xv_T ∧ Cond.instantiable C N ∈ xv_T ∧ Cond.initialized C ∈ xv_T
section XH
variable {G : xa_G} {M : xa_M} {dp kc ks pc : Nat} {L : List (Option Value)} {st : List Value} {h : xa_H} {sz : Nat} {Q : Outcome → xa_H → Nat → Prop}
theorem xw_get {index ci k a : Nat} {fs : List Value} {v : Value} (hF : xa_F M.1.cls index ci k) (hd : decode M.2.1 pc = .ok (.getfield index, 3)) (ha : h a = some (.inr (ci, fs))) (hv : fs[k]? = some v) (kk : xa_W G M dp kc ks (pc + 3) L (v :: st) h sz Q) : xa_W G M dp kc ks pc L (.ref a :: st) h sz Q := by
  intro p e R s m args below meth c H locs cells slots ls kT nT C h1 h2 h3 h4 hl hP hz hS
  have C' := C
  obtain ⟨hx, hb, -, hown, hts, -, -, -, -, hK, -⟩ := C'
  obtain ⟨Cn, T, N, ref, hc, hk, hin, hlink, hsm⟩ := hF
  obtain ⟨r, g1, cell, q1, q2, q3, q4⟩ := hP.1 a _ ha
  have hr : r = (Cn, T, N) := Option.some.inj (g1.symm.trans hc)
  subst hr
  obtain ⟨hSl, hfc, kC, hkC, hkind⟩ := hK.1 ci _ hc
  obtain ⟨cf, kf, fi, f, hi, hsl⟩ := hSl k hk
  have hi' : s.fieldFound? ref (T k).2.1 (T k).2.2.1 = some (cf, kf, fi, f) := by
    rcases hsm with rfl | hsm
    · exact hi
    · exact u_same (hts _ hsm) _ hi
  refine W.getf hx hb hown (hts _ hlink) hi' (u_facts hfc hkC (u_lays hts hin hk) hi).1 q1 (by rw [q3]; exact fun h => by cases h) (v := v) ?_ rfl rfl hd (kk p e R s m args below meth c H locs cells slots ls kT nT C h1 h2 h3 h4 hl hP hz hS)
  rw [hsl, q4 k hk]
  simp [vp_V, hv]
theorem xw_put {index ci k a : Nat} {fs : List Value} {v : Value} {ty : FieldType} {fin : Bool} (hF : xa_F M.1.cls index ci k) (hZ : xa_Z ci k ty fin M.1.cls) (hfin : fin = false ∨ M.1.name = "<init>") (hd : decode M.2.1 pc = .ok (.putfield index, 3)) (ha : h a = some (.inr (ci, fs))) (hl0 : k < fs.length) (hB : G.2.2.1 ≤ a) (hn : narrow ty v = v) (hfit : fits ty v = true)
    (kk : xa_W G M dp kc ks (pc + 3) L st (xa_up h a (.inr (ci, fs.set k v))) sz Q) : xa_W G M dp kc ks pc L (v :: .ref a :: st) h sz Q := by
  intro p e R s m args below meth c H locs cells slots ls kT nT C h1 h2 h3 h4 hl hP hz hS
  have C' := C
  obtain ⟨hx, hb, -, hown, hts, -, -, hnm', -, hK, -⟩ := C'
  obtain ⟨Cn, T, N, ref, hc, hk, hin, hlink, hsm⟩ := hF
  obtain ⟨Cn2, T2, N2, ty0, hc2, hty, hnm, hte, hfi, hdecl⟩ := hZ
  have hcc : (Cn2, T2, N2) = (Cn, T, N) := Option.some.inj (hc2.symm.trans hc)
  cases hcc
  obtain ⟨r, g1, cell, q1, q2, q3, q4⟩ := hP.1 a _ ha
  have hr : r = (Cn, T, N) := Option.some.inj (g1.symm.trans hc)
  subst hr
  have hKn := hK.1 ci _ hc
  obtain ⟨hSl, hfc, kC, hkC, hkind⟩ := hK.1 ci _ hc
  have hap : ∀ x y, x < N → y < N → x ≠ y → (G.2.1.1.2 ci) x ≠ (G.2.1.1.2 ci) y := by
    intro x y hx' hy hne
    obtain ⟨_, _, _, fa, hia, ea⟩ := hSl x hx'
    obtain ⟨_, _, _, fb, hib, eb⟩ := hSl y hy
    rw [← ea, ← eb]
    refine u_apart (u_lays hts hin hx') (u_lays hts hin hy) hia hib ?_
    rw [(State.fieldFound?_type hia (hty x hx')).1, (State.fieldFound?_type hib (hty y hy)).1]
    exact hnm x hx' y hy hne
  obtain ⟨cf, kf, fi, f, hi, hsl⟩ := hSl k hk
  have hi' : s.fieldFound? ref (T k).2.1 (T k).2.2.1 = some (cf, kf, fi, f) := by
    rcases hsm with rfl | hsm
    · exact hi
    · exact u_same (hts _ hsm) _ hi
  have hd' : parseFieldDescriptor (T k).2.2.1 = some ty := by rw [hty k hk, hte]
  have hst := (u_facts hfc hkC (u_lays hts hin hk) hi).1
  have hlay := hts _ (hin _ (u_in_lay hk))
  unfold u_lay at hlay
  have fine : ∀ (H' : Heap), H'[a]? = some (cell.setSlot f.slot v) → H'.size = H.size → (∀ q, q ≠ a → H'[q]? = H[q]?) → W p G.1 e R s m args below meth c H' (locs ++ [⟨a, f.slot⟩]) cells slots (xa_Q G s below kT nT Q) (F0 m (pc + 3) ls st) := by
    intro H' e1 e2 e3
    rw [hsl] at e1 ⊢
    exact kk p e R s m args below meth c H' _ cells slots ls kT nT C h1 h2 h3 h4 hl (hP.put (e := .inr (ci, fs.set k v)) ⟨_, hc, t_OB.to (V := updV (vp_V fs) k v) ⟨_, e1, q2, q3, t_set q4 hap hk v⟩ (fun j _ => vp_updV_set hl0 v j)⟩ e3) (e2.trans hz) (hS.put e2 e3 hB)
  cases fin with
  | false =>
    rw [if_neg (by rw [hfi]; decide)] at hlay
    have h6 := u_store hfc hkC hkind hlay hi hd' hn hfit
    exact W.putK hx hb (f := f) ⟨hown, hts _ hlink, ⟨_, _, _, hi'⟩, hst⟩ (by rw [q2]; exact h6) q1 q3 (by rw [hsl]; exact k2_hasslot (q4 k hk)) rfl rfl hd fine
  | true =>
    rw [if_pos hfi] at hlay
    have hcf : m.cls = cf := by
      obtain ⟨_, _, c', _, _, _, -, -, hf', -, -, -, hown2, -⟩ := Cond.laysFinal_spec hlay
      have e1 : c' = cf := by have := hi.symm.trans hf'; simp at this; exact this.1.symm
      rw [hdecl rfl] at hown2
      rw [← e1]; exact Option.some.inj (hown.symm.trans hown2)
    have hin2 : meth.name = "<init>" := by
      rcases hfin with q | q
      · cases q
      · exact hnm'.trans q
    have h6 := u_fits hfc hkC hkind (Or.inr hlay) hi hd' hn hfit
    exact W.putFinK hx hb hown (hts _ hlink) hi' hst hcf hin2 (by rw [q2]; exact h6) q1 q3 (by rw [hsl]; exact k2_hasslot (q4 k hk)) rfl rfl hd fine
theorem xw_new {index ci : Nat} {fs : List Value} (hN : xa_N M.1.cls index ci fs) (hd : decode M.2.1 pc = .ok (.new index, 3)) (kk : xa_W G M dp kc ks (pc + 3) L (.ref sz :: st) (xa_up h sz (.inr (ci, fs))) (sz + 1) Q) : xa_W G M dp (kc + 1) (ks + fs.length) pc L st h sz Q := by
  intro p e R s m args below meth c H locs cells slots ls kT nT C h1 h2 h3 h4 hl hP hz hS
  have C' := C
  obtain ⟨hx, hb, -, hown, hts, -, -, -, -, hK, -, -, hBs, -⟩ := C'
  obtain ⟨Cn, T, N, ty0, hc, hlen, hty, hfs, hin, hcl, hins, hini⟩ := hN
  subst hz
  have hKn := hK.1 ci _ hc
  refine W.newcK hx hb hown (hts _ hcl) (hts _ hins) (hts _ hini) rfl hd (by omega) (by omega) hKn.2.1 rfl fun H1 kC hkC e1 z1 o1 => ?_
  refine kk p e R s m args below meth c H1 locs (cells + 1) (slots + N) ls kT nT C (by omega) (by omega) h3 h4 hl (hP.new (e := .inr (ci, fs)) ⟨_, hc, (u_born ty0 hts hin hKn hkC e1 hty).to hfs⟩ o1 z1) z1 ?_
  exact ⟨Nat.le_trans hS.1 (by omega), fun q g1 g2 => (o1 q (Nat.lt_of_lt_of_le g1 hS.1)).trans (hS.2.1 q g1 g2), hS.2.2⟩
theorem xw_iald {a n : Nat} {f : Nat → Int32} {i : Int32} (hd : decode M.2.1 pc = .ok (.iaload, 1)) (ha : h a = some (.inl (0, (n, .inl f)))) (hin : vp_in i n) (kk : xa_W G M dp kc ks (pc + 1) L (.int (f i.toNatClampNeg) :: st) h sz Q) : xa_W G M dp kc ks pc L (.int i :: .ref a :: st) h sz Q := by
  intro p e R s m args below meth c H locs cells slots ls kT nT C h1 h2 h3 h4 hl hP hz hS
  have hlt : i.toNatClampNeg < n := Nat.not_le.mp fun q => hin (Or.inr q)
  have hK := C.2.2.2.2.2.2.2.2.2.1
  exact W.iald (v := .int (f i.toNatClampNeg)) C.1 C.2.1 (hP.1 a _ ha) ((hK.2 0 _ rfl).1 n (fun j => .int (f j))) (fun q => by cases q) (by show ¬ (i < 0 ∨ (arrV _ _ _).slots.size ≤ _); rw [arrV_size]; exact hin) (by show (arrV _ _ _).slots[_]? = _; rw [arrV_read _ _ hlt]) rfl rfl hd (kk p e R s m args below meth c H locs cells slots ls kT nT C h1 h2 h3 h4 hl hP hz hS)
theorem xw_lald {a n : Nat} {f : Nat → Int64} {i : Int32} (hd : decode M.2.1 pc = .ok (.laload, 1)) (ha : h a = some (.inl (1, (n, .inr (.inl f))))) (hin : vp_in i n) (kk : xa_W G M dp kc ks (pc + 1) L (.long (f i.toNatClampNeg) :: st) h sz Q) : xa_W G M dp kc ks pc L (.int i :: .ref a :: st) h sz Q := by
  intro p e R s m args below meth c H locs cells slots ls kT nT C h1 h2 h3 h4 hl hP hz hS
  have hlt : i.toNatClampNeg < n := Nat.not_le.mp fun q => hin (Or.inr q)
  have hK := C.2.2.2.2.2.2.2.2.2.1
  exact W.lald (v := .long (f i.toNatClampNeg)) C.1 C.2.1 (hP.1 a _ ha) ((hK.2 1 _ rfl).1 n (fun j => .long (f j))) (fun q => by cases q) (by show ¬ (i < 0 ∨ (arrV _ _ _).slots.size ≤ _); rw [arrV_size]; exact hin) (by show (arrV _ _ _).slots[_]? = _; rw [arrV_read _ _ hlt]) rfl rfl hd (kk p e R s m args below meth c H locs cells slots ls kT nT C h1 h2 h3 h4 hl hP hz hS)
theorem xw_zald {a n : Nat} {f : Nat → Int32} {i : Int32} (hd : decode M.2.1 pc = .ok (.baload, 1)) (ha : h a = some (.inl (2, (n, .inl f)))) (hin : vp_in i n) (kk : xa_W G M dp kc ks (pc + 1) L (.int (f i.toNatClampNeg) :: st) h sz Q) : xa_W G M dp kc ks pc L (.int i :: .ref a :: st) h sz Q := by
  intro p e R s m args below meth c H locs cells slots ls kT nT C h1 h2 h3 h4 hl hP hz hS
  have hlt : i.toNatClampNeg < n := Nat.not_le.mp fun q => hin (Or.inr q)
  have hK := C.2.2.2.2.2.2.2.2.2.1
  exact W.zald (v := .int (f i.toNatClampNeg)) C.1 C.2.1 (hP.1 a _ ha) ((hK.2 2 _ rfl).1 n (fun j => .int (f j))) (fun q => by cases q) (by show ¬ (i < 0 ∨ (arrV _ _ _).slots.size ≤ _); rw [arrV_size]; exact hin) (by show (arrV _ _ _).slots[_]? = _; rw [arrV_read _ _ hlt]) rfl rfl hd (kk p e R s m args below meth c H locs cells slots ls kT nT C h1 h2 h3 h4 hl hP hz hS)
theorem xw_aald {a n t : Nat} {E : String} {f : Nat → Option Nat} {i : Int32} (ht : xv_y[t]? = some (.object E)) (hd : decode M.2.1 pc = .ok (.aaload, 1)) (ha : h a = some (.inl (t, (n, .inr (.inr (.inr (.inr f))))))) (hin : vp_in i n) (kk : xa_W G M dp kc ks (pc + 1) L (va_rf (f i.toNatClampNeg) :: st) h sz Q) : xa_W G M dp kc ks pc L (.int i :: .ref a :: st) h sz Q := by
  intro p e R s m args below meth c H locs cells slots ls kT nT C h1 h2 h3 h4 hl hP hz hS
  have hlt : i.toNatClampNeg < n := Nat.not_le.mp fun q => hin (Or.inr q)
  have hK := C.2.2.2.2.2.2.2.2.2.1
  exact W.aald (v := va_rf (f i.toNatClampNeg)) (ty := .object E) C.1 C.2.1 (hP.1 a _ ha) ((hK.2 t _ ht).1 n (fun j => va_rf (f j))) rfl (fun q => by cases q) (by show ¬ (i < 0 ∨ (arrV _ _ _).slots.size ≤ _); rw [arrV_size]; exact hin) (by show (arrV _ _ _).slots[_]? = _; rw [arrV_read _ _ hlt]) rfl rfl hd (kk p e R s m args below meth c H locs cells slots ls kT nT C h1 h2 h3 h4 hl hP hz hS)
theorem xw_alen {a t : Nat} {ty : FieldType} {x : vp_A} (ht : xv_y[t]? = some ty) (hd : decode M.2.1 pc = .ok (.arraylength, 1)) (ha : h a = some (.inl (t, x))) (kk : xa_W G M dp kc ks (pc + 1) L (.int (nI x.1) :: st) h sz Q) : xa_W G M dp kc ks pc L (.ref a :: st) h sz Q := by
  intro p e R s m args below meth c H locs cells slots ls kT nT C h1 h2 h3 h4 hl hP hz hS
  have hK := C.2.2.2.2.2.2.2.2.2.1
  have k9 := kk p e R s m args below meth c H locs cells slots ls kT nT C h1 h2 h3 h4 hl hP hz hS
  obtain ⟨n, f | f | f | f | f⟩ := x
  · exact W.alen (n := Int32.ofNat n) C.1 C.2.1 (hP.1 a _ ha) ((hK.2 t _ ht).1 n (fun j => .int (f j))) (by rw [vp_cell_i, arrV_size] <;> rfl) rfl rfl hd k9
  · exact W.alen (n := Int32.ofNat n) C.1 C.2.1 (hP.1 a _ ha) ((hK.2 t _ ht).1 n (fun j => .long (f j))) (by rw [vp_cell_l, arrV_size] <;> rfl) rfl rfl hd k9
  · exact W.alen (n := Int32.ofNat n) C.1 C.2.1 (hP.1 a _ ha) ((hK.2 t _ ht).1 n (fun j => .float (f j))) (by rw [vp_cell_f, arrV_size] <;> rfl) rfl rfl hd k9
  · exact W.alen (n := Int32.ofNat n) C.1 C.2.1 (hP.1 a _ ha) ((hK.2 t _ ht).1 n (fun j => .double (f j))) (by rw [vp_cell_d, arrV_size] <;> rfl) rfl rfl hd k9
  · exact W.alen (n := Int32.ofNat n) C.1 C.2.1 (hP.1 a _ ha) ((hK.2 t _ ht).1 n (fun j => va_rf (f j))) (by rw [vp_cell_q, arrV_size] <;> rfl) rfl rfl hd k9
theorem xw_iast {a n : Nat} {f : Nat → Int32} {i x : Int32} (hd : decode M.2.1 pc = .ok (.iastore, 1)) (ha : h a = some (.inl (0, (n, .inl f)))) (hin : vp_in i n) (hB : G.2.2.1 ≤ a) (kk : xa_W G M dp kc ks (pc + 1) L st (xa_up h a (.inl (0, (n, .inl (upd f i.toNatClampNeg x))))) sz Q) : xa_W G M dp kc ks pc L (.int x :: .int i :: .ref a :: st) h sz Q := by
  intro p e R s m args below meth c H locs cells slots ls kT nT C h1 h2 h3 h4 hl hP hz hS
  have hK := C.2.2.2.2.2.2.2.2.2.1
  refine W.iast C.1 C.2.1 (hP.1 a _ ha) ((hK.2 0 _ rfl).1 n (fun j => .int (f j))) (fun q => by cases q) (by show ¬ (i < 0 ∨ (arrV _ _ _).slots.size ≤ _); rw [arrV_size]; exact hin) rfl rfl hd fun H1 e1 z oq => ?_
  refine kk p e R s m args below meth c H1 _ cells slots ls kT nT C h1 h2 h3 h4 hl (hP.put ?_ oq) (z.trans hz) (hS.put z oq hB)
  show H1[a]? = some (vp_cell _ _)
  rw [e1]
  show some ((vp_cell _ (n, .inl f)).setSlot _ _) = _
  rw [vp_cell_i, vp_cell_i, arrV_store]
  congr 2
  funext q
  by_cases hq : q = i.toNatClampNeg
  · subst hq
    simp [updV, upd]
  · simp [updV, upd, hq]
theorem xw_last {a n : Nat} {f : Nat → Int64} {i : Int32} {x : Int64} (hd : decode M.2.1 pc = .ok (.lastore, 1)) (ha : h a = some (.inl (1, (n, .inr (.inl f))))) (hin : vp_in i n) (hB : G.2.2.1 ≤ a) (kk : xa_W G M dp kc ks (pc + 1) L st (xa_up h a (.inl (1, (n, .inr (.inl (vp_updL f i.toNatClampNeg x)))))) sz Q) : xa_W G M dp kc ks pc L (.long x :: .int i :: .ref a :: st) h sz Q := by
  intro p e R s m args below meth c H locs cells slots ls kT nT C h1 h2 h3 h4 hl hP hz hS
  have hK := C.2.2.2.2.2.2.2.2.2.1
  refine W.last C.1 C.2.1 (hP.1 a _ ha) ((hK.2 1 _ rfl).1 n (fun j => .long (f j))) (fun q => by cases q) (by show ¬ (i < 0 ∨ (arrV _ _ _).slots.size ≤ _); rw [arrV_size]; exact hin) rfl rfl hd fun H1 e1 z oq => ?_
  refine kk p e R s m args below meth c H1 _ cells slots ls kT nT C h1 h2 h3 h4 hl (hP.put ?_ oq) (z.trans hz) (hS.put z oq hB)
  show H1[a]? = some (vp_cell _ _)
  rw [e1]
  show some ((vp_cell _ (n, .inr (.inl f))).setSlot _ _) = _
  rw [vp_cell_l, vp_cell_l, arrV_store]
  congr 2
  funext q
  by_cases hq : q = i.toNatClampNeg
  · subst hq
    simp [updV, vp_updL]
  · simp [updV, vp_updL, hq]
theorem xw_zast {a n : Nat} {f : Nat → Int32} {i x : Int32} (hd : decode M.2.1 pc = .ok (.bastore, 1)) (ha : h a = some (.inl (2, (n, .inl f)))) (hin : vp_in i n) (hB : G.2.2.1 ≤ a) (kk : xa_W G M dp kc ks (pc + 1) L st (xa_up h a (.inl (2, (n, .inl (upd f i.toNatClampNeg (vp_nar .boolean x)))))) sz Q) : xa_W G M dp kc ks pc L (.int x :: .int i :: .ref a :: st) h sz Q := by
  intro p e R s m args below meth c H locs cells slots ls kT nT C h1 h2 h3 h4 hl hP hz hS
  have hK := C.2.2.2.2.2.2.2.2.2.1
  refine W.zast C.1 C.2.1 (hP.1 a _ ha) ((hK.2 2 _ rfl).1 n (fun j => .int (f j))) (fun q => by cases q) (by show ¬ (i < 0 ∨ (arrV _ _ _).slots.size ≤ _); rw [arrV_size]; exact hin) rfl rfl hd fun H1 e1 z oq => ?_
  refine kk p e R s m args below meth c H1 _ cells slots ls kT nT C h1 h2 h3 h4 hl (hP.put ?_ oq) (z.trans hz) (hS.put z oq hB)
  show H1[a]? = some (vp_cell _ _)
  rw [e1]
  show some ((vp_cell _ (n, .inl f)).setSlot _ _) = _
  rw [vp_cell_i, vp_cell_i, arrV_store]
  congr 2
  funext q
  by_cases hq : q = i.toNatClampNeg
  · subst hq
    simp [updV, upd, vp_nar, narrow]
  · simp [updV, upd, hq]
def xa_A (ci : Nat) (E : String) : Prop := ∃ r : vw_C, xv_c[ci]? = some r ∧ (r.1 = E ∨ Cond.castable r.1 E ∈ xv_U)
theorem xa_asg {D : xa_D} {s : State} {ci : Nat} {E : String} (hK : xa_K D s) (hts : ∀ w ∈ xv_U, w.before #[] s = true) (hA : xa_A ci E) {comp : ClassId} (hE : s.vm.findClass E = some comp) : s.vm.assignable (D.1.1 ci) comp = true ∧ ∃ kC, s.vm.classes[D.1.1 ci]? = some kC := by
  obtain ⟨r, hc, hr⟩ := hA
  have hcl := (hK.1 ci r hc).2
  obtain ⟨kC, hkC, -⟩ := hcl.2
  refine ⟨?_, kC, hkC⟩
  rcases hr with hr | hr
  · rw [hr] at hcl
    cases hE.symm.trans hcl.1
    exact va_assign hcl
  · obtain ⟨c0, t0, f1, f2, f3⟩ := Cond.castable_spec (hts _ hr)
    cases hcl.1.symm.trans f1
    cases hE.symm.trans f2
    exact f3
theorem xw_aast {a n t v ci : Nat} {vs : List Value} {E : String} {f : Nat → Option Nat} {i : Int32} (ht : xv_y[t]? = some (.object E)) (hA : xa_A ci E) (hd : decode M.2.1 pc = .ok (.aastore, 1)) (ha : h a = some (.inl (t, (n, .inr (.inr (.inr (.inr f))))))) (hv : h v = some (.inr (ci, vs))) (hin : vp_in i n) (hB : G.2.2.1 ≤ a)
    (kk : xa_W G M dp kc ks (pc + 1) L st (xa_up h a (.inl (t, (n, .inr (.inr (.inr (.inr (va_up f i.toNatClampNeg (some v))))))))) sz Q) : xa_W G M dp kc ks pc L (.ref v :: .int i :: .ref a :: st) h sz Q := by
  intro p e R s m args below meth c H locs cells slots ls kT nT C h1 h2 h3 h4 hl hP hz hS
  have hK := C.2.2.2.2.2.2.2.2.2.1
  have hts := C.2.2.2.2.2.2.2.2.2.2.2.2.2.2.2.2.1
  have hlt : i.toNatClampNeg < n := Nat.not_le.mp fun q => hin (Or.inr q)
  have h0 : ¬ i < 0 := fun q => hin (Or.inl q)
  obtain ⟨r', hr', cellV, g1, g2, g3, -⟩ := hP.1 v _ hv
  obtain ⟨kA, comp, k1, k2, k3, -⟩ := (hK.2 t _ ht).2
  obtain ⟨kE, hkE, -⟩ := Vm.findClass_spec k3
  obtain ⟨hasg, kC, hkC⟩ := xa_asg hK hts hA k3
  refine W.aast C.1 C.2.1 (hP.1 a _ ha) (fun q h => by cases h) (fun h => by cases h) k1 k2 rfl hkE ⟨h0, by show _ < (arrV _ _ _).slots.size; rw [arrV_size]; exact hlt⟩ g1 (fun q h => by rw [g3] at h; cases h) (by rw [g2]; exact hkC) (by rw [g2]; exact hasg) rfl rfl hd fun H1 e1 z oq => ?_
  refine kk p e R s m args below meth c H1 _ cells slots ls kT nT C h1 h2 h3 h4 hl (hP.put ?_ oq) (z.trans hz) (hS.put z oq hB)
  show H1[a]? = some (vp_cell _ _)
  rw [e1]
  show some ((vp_cell _ (n, .inr (.inr (.inr (.inr f))))).setSlot _ _) = _
  rw [vp_cell_q, vp_cell_q, arrV_store]
  congr 2
  funext q
  by_cases hq : q = i.toNatClampNeg
  · subst hq
    simp [updV, va_up, va_rf]
  · simp [updV, va_up, hq]
theorem xw_aastN {a n t : Nat} {E : String} {f : Nat → Option Nat} {i : Int32} (ht : xv_y[t]? = some (.object E)) (hd : decode M.2.1 pc = .ok (.aastore, 1)) (ha : h a = some (.inl (t, (n, .inr (.inr (.inr (.inr f))))))) (hin : vp_in i n) (hB : G.2.2.1 ≤ a)
    (kk : xa_W G M dp kc ks (pc + 1) L st (xa_up h a (.inl (t, (n, .inr (.inr (.inr (.inr (va_up f i.toNatClampNeg none)))))))) sz Q) : xa_W G M dp kc ks pc L (.null :: .int i :: .ref a :: st) h sz Q := by
  intro p e R s m args below meth c H locs cells slots ls kT nT C h1 h2 h3 h4 hl hP hz hS
  have hK := C.2.2.2.2.2.2.2.2.2.1
  refine va_WaastN (C := E) C.1 C.2.1 (hP.1 a _ ha) ((hK.2 t _ ht).1 n (fun j => va_rf (f j))) (fun h => by cases h) (by show ¬ (i < 0 ∨ (arrV _ _ _).slots.size ≤ _); rw [arrV_size]; exact hin) rfl rfl hd fun H1 e1 z oq => ?_
  refine kk p e R s m args below meth c H1 _ cells slots ls kT nT C h1 h2 h3 h4 hl (hP.put ?_ oq) (z.trans hz) (hS.put z oq hB)
  show H1[a]? = some (vp_cell _ _)
  rw [e1]
  show some ((vp_cell _ (n, .inr (.inr (.inr (.inr f))))).setSlot _ _) = _
  rw [vp_cell_q, vp_cell_q, arrV_store]
  congr 2
  funext q
  by_cases hq : q = i.toNatClampNeg
  · subst hq
    simp [updV, va_up, va_rf]
  · simp [updV, va_up, hq]
theorem xw_newa {atype : ArrayType} {ty : FieldType} {t N : Nat} {n : Int32} {a0 : vp_A} (hty : newarray.typeOf atype = ty) (hpr : ∀ E, ty ≠ .object E) (ht : xv_y[t]? = some ty) (hw : Cond.arrayClass ty ∈ xv_T) (hd : decode M.2.1 pc = .ok (.newarray atype, 2)) (ha : ∀ cA : ClassId, vp_cell cA a0 = arrV cA N (fun _ => defaultValue ty)) (hn : ¬ n < 0) (hN : n.toNatClampNeg = N) (hby : N * componentBytes ty ≤ 536870912)
    (kk : xa_W G M dp kc ks (pc + 2) L (.ref sz :: st) (xa_up h sz (.inl (t, a0))) (sz + 1) Q) : xa_W G M dp (kc + 1) (ks + N) pc L (.int n :: st) h sz Q := by
  intro p e R s m args below meth c H locs cells slots ls kT nT C h1 h2 h3 h4 hl hP hz hS
  have hK := C.2.2.2.2.2.2.2.2.2.1
  have hts := C.2.2.2.2.1
  subst hz
  subst hty
  refine va_newaK C.1 C.2.1 (hts _ hw) rfl hd rfl hn hN hby (by omega) (by omega) rfl fun H1 cA e1 z1 o1 hAr hNm => ?_
  have hcA : cA = G.2.1.2 t := by
    have h9 := (hK.2 t _ ht).2
    have h8 : s.vm.findClass ("[" ++ (newarray.typeOf atype).toString) = some (G.2.1.2 t) := by cases atype <;> exact h9
    exact Option.some.inj (hNm.symm.trans h8)
  subst hcA
  refine kk p e R s m args below meth c H1 locs (cells + 1) (slots + N) ls kT nT C (by omega) (by omega) h3 h4 hl (hP.new (e := .inl (t, a0)) ?_ o1 z1) z1 ?_
  · show H1[H.size]? = some (vp_cell _ _)
    rw [ha]
    exact e1
  · exact ⟨Nat.le_trans hS.1 (by omega), fun q g1 g2 => (o1 q (Nat.lt_of_lt_of_le g1 hS.1)).trans (hS.2.1 q g1 g2), hS.2.2⟩
theorem xw_anew {t index N : Nat} {E : String} {n : Int32} (ht : xv_y[t]? = some (.object E)) (hw : Cond.classLink M.1.cls index E ∈ xv_T) (hov : Cond.arrayOver (.object E) ∈ xv_U) (hd : decode M.2.1 pc = .ok (.anewarray index, 3)) (hn : ¬ n < 0) (hN : n.toNatClampNeg = N) (hby : N * 4 ≤ 536870912)
    (kk : xa_W G M dp kc ks (pc + 3) L (.ref sz :: st) (xa_up h sz (.inl (t, (N, .inr (.inr (.inr (.inr (fun _ => none)))))))) (sz + 1) Q) : xa_W G M dp (kc + 1) (ks + N) pc L (.int n :: st) h sz Q := by
  intro p e R s m args below meth c H locs cells slots ls kT nT C h1 h2 h3 h4 hl hP hz hS
  have hK := C.2.2.2.2.2.2.2.2.2.1
  have hts := C.2.2.2.2.1
  have hown := C.2.2.2.1
  subst hz
  subst hN
  refine W.anew C.1 C.2.1 hown (hts _ hw) (va_AO.use (C.2.2.2.2.2.2.2.2.2.2.2.2.2.2.2.2.1 _ hov)) rfl hd rfl hn hby (by omega) (by omega) fun cA kA comp f1 f2 f3 f4 => ?_
  generalize hH1 : H.push ({ cls := cA, slots := Array.replicate n.toNatClampNeg .null, vm := .none } : Cell) = H1
  have z1 : H1.size = H.size + 1 := by rw [← hH1, Array.size_push]
  have e1 : H1[H.size]? = some (arrV cA n.toNatClampNeg (fun _ => .null)) := by rw [← hH1, Array.getElem?_push_size, ← arrV_new]
  have o1 : ∀ q : Nat, q < H.size → H1[q]? = H[q]? := fun q hq => by rw [← hH1, Array.getElem?_push, if_neg (Nat.ne_of_lt hq)]
  obtain ⟨_, _, _, _, _, k4⟩ := (hK.2 t _ ht).2
  have hcA : cA = G.2.1.2 t := Option.some.inj (f1.symm.trans k4)
  subst hcA
  refine kk p e R s m args below meth c H1 locs (cells + 1) (slots + n.toNatClampNeg) ls kT nT C (by omega) (by omega) h3 h4 hl (hP.new (e := .inl (t, (n.toNatClampNeg, .inr (.inr (.inr (.inr (fun _ => none))))))) ?_ o1 z1) z1 ?_
  · show H1[H.size]? = some (vp_cell _ _)
    rw [vp_cell_q]
    exact e1
  · exact ⟨Nat.le_trans hS.1 (by omega), fun q g1 g2 => (o1 q (Nat.lt_of_lt_of_le g1 hS.1)).trans (hS.2.1 q g1 g2), hS.2.2⟩
theorem xa_recv {G : xa_G} {s : State} {H : Heap} {h : xa_H} {a ci : Nat} {r : vw_C} {fs : List Value} (hK : xa_K G.2.1 s) (hP : xa_P G h H) (hc : xv_c[ci]? = some r) (ha : h a = some (.inr (ci, fs))) : ∃ cell : Cell, H[a]? = some cell ∧ cell.vm.isStatics = false ∧ s.vm.findClass r.1 = some cell.cls := by
  obtain ⟨r', _, cell, g1, g2, g3, -⟩ := hP.1 a _ ha
  exact ⟨cell, g1, by rw [g3]; rfl, by rw [g2]; exact (hK.1 ci r hc).2.1⟩
theorem xw_cast {index a ci : Nat} {fs : List Value} {E : String} (hw : Cond.classLink M.1.cls index E ∈ xv_T) (hc : ∃ T N, xv_c[ci]? = some (E, T, N)) (hd : decode M.2.1 pc = .ok (.checkcast index, 3)) (ha : h a = some (.inr (ci, fs))) (kk : xa_W G M dp kc ks (pc + 3) L (.ref a :: st) h sz Q) : xa_W G M dp kc ks pc L (.ref a :: st) h sz Q := by
  intro p e R s m args below meth c H locs cells slots ls kT nT C h1 h2 h3 h4 hl hP hz hS
  have hK := C.2.2.2.2.2.2.2.2.2.1
  obtain ⟨T, N, hc⟩ := hc
  exact va_castS C.1 C.2.1 C.2.2.2.1 (C.2.2.2.2.1 _ hw) (hK.1 ci _ hc).2 (xa_recv hK hP hc ha) hd (kk p e R s m args below meth c H locs cells slots ls kT nT C h1 h2 h3 h4 hl hP hz hS)
theorem xw_objInit {index a : Nat} (hw : Cond.methodLink M.1.cls index objectInit ∈ xv_T) (hi : Cond.instanceMethod objectInit ∈ xv_T) (hc : Cond.code objectInit ⟨#[0xb1]⟩ 1 none ∈ xv_T) (hdp : 1 ≤ dp) (hst : ((st.map fun v => v.category).sum) ≤ 8) (hd : decode M.2.1 pc = .ok (.invokespecial index, 3)) (kk : xa_W G M dp kc ks (pc + 3) L st h sz Q) : xa_W G M dp kc ks pc L (.ref a :: st) h sz Q := by
  intro p e R s m args below meth c H locs cells slots ls kT nT C h1 h2 h3 h4 hl hP hz hS
  have hts := C.2.2.2.2.1
  have hf := C.2.2.2.2.2.2.2.2.2.2.1
  have hlo := C.2.2.2.2.2.2.2.2.2.2.2.1
  refine W.objInit C.1 C.2.1 C.2.2.2.1 (hts _ hw) (hts _ hi) (hts _ hc) (g := F0 m pc ls (.ref a :: st)) rfl (hl.1.trans C.2.2.1.symm) rfl hd (by omega) ?_ (kk p e R s m args below meth c H locs cells slots ls kT nT C h1 h2 h3 h4 hl hP hz hS)
  have h9 : (F0 m pc ls (.ref a :: st)).monitorRoom = 0 := rfl
  rw [h9]
  omega
end XH
end
section
/-! contracts, calls, throws -/
def xa_rm (dp kc ks : Nat) : Room := { frames := dp, cells := kc, slots := ks, locals := 128 * dp }
def xa_Pc (G : xa_G) (as : List Value) (h : xa_H) (sz : Nat) : Array Value → State → Prop := fun a U => a = as.toArray ∧ xa_P G h U.heap ∧ U.heap.size = sz ∧ xa_K G.2.1 U ∧ G.2.2.1 ≤ sz ∧ xa_pr G U
def xa_Qc (G : xa_G) (kc ks : Nat) (Q : Outcome → xa_H → Nat → Prop) : Array Value → State → Outcome → State → Prop := fun _ st o t => xa_R G Q st o t ∧ ∃ L, st.WarmedH t.vm ∧ st.sameButNew ({ t with vm := st.vm } : State) L kc ks ∧ ∀ q ∈ L, G.2.2.1 ≤ q.base
/-- the method M, called with 'as' on a heap that holds h, of size sz: it ends, and Q -/
def xa_T (G : xa_G) (M : xa_M) (dp kc ks : Nat) (as : List Value) (h : xa_H) (sz : Nat) (Q : Outcome → xa_H → Nat → Prop) : Prop :=
  MetFree G.1 M.1 (headSpec xv_T (xa_rm dp kc ks)) (xa_Pc G as h sz) (fun _ _ _ _ _ => True) (xa_Qc G kc ks Q)
/-- what the tables say of a method -/
def xa_O (M : xa_M) : Prop := plainName M.1.cls = true ∧ (Cond.codeWith M.1 M.2.1 M.2.2.1 M.2.2.2.1 M.2.2.2.2 ∈ xv_T ∨ (M.2.2.2.2 = [] ∧ Cond.code M.1 M.2.1 M.2.2.1 M.2.2.2.1 ∈ xv_T)) ∧ Cond.initialized M.1.cls ∈ xv_T ∧ M.1.cls ≠ "java/lang/invoke/MethodHandle" ∧ M.1.cls ≠ "java/lang/invoke/VarHandle"
theorem xa_O.spec {M : xa_M} (h : xa_O M) {args : Array Value} {s : State} (hts : ∀ w ∈ xv_T, w.before args s = true) {m : MethodId} (hn : s.methodNamed? M.1 = some m) : ∃ meth c, s.vm.method? m = some meth ∧ meth.code = some c ∧ c.code = M.2.1 ∧ c.maxLocals = M.2.2.1 ∧ meth.sig.returnType = M.2.2.2.1 ∧ meth.locks = false ∧ xa_tb c.exceptionTable = M.2.2.2.2 ∧ parseMethodDescriptor M.1.desc = some meth.sig := by
  have hw : (Cond.codeWith M.1 M.2.1 M.2.2.1 M.2.2.2.1 M.2.2.2.2).before args s = true := by
    rcases h.2.1 with h1 | ⟨h1, h2⟩
    · exact hts _ h1
    · have h3 := hts _ h2
      rw [h1]
      unfold Cond.before Cond.holds at h3 ⊢
      rw [← Cond.code_iff_codeWith_nil]
      exact h3
  obtain ⟨m', meth, c, hn', hm, hc, hb, hl, ht, hr, hk, hsig⟩ := Cond.codeWith_spec hw
  cases hn.symm.trans hn'
  exact ⟨meth, c, hm, hc, hb, hl, hr, hk, ht, hsig⟩
/-- words hold at every later state of a walk -/
theorem xa_words {args : Array Value} {s : State} (hts : ∀ w ∈ xv_T, w.before args s = true) (a' : Array Value) {U : State} (hW : s.WarmedH U.vm) : ∀ w ∈ xv_T, w.before a' U = true := fun w hw => word_at hW (xv_good w hw) (hts w hw)
theorem xt_of {G : xa_G} {M : xa_M} {dp kc ks : Nat} {as : List Value} {h : xa_H} {sz : Nat} {Q : Outcome → xa_H → Nat → Prop} (hO : xa_O M) (hcat : ∀ v ∈ as, v.category = 1) (hn : as.length ≤ M.2.2.1) (k : xa_W G M dp kc ks 0 (as.map some ++ List.replicate (M.2.2.1 - as.length) none) [] h sz Q) : xa_T G M dp kc ks as h sz Q := by
  refine MetFree.of_bodyS (code := M.2.1) (maxLocals := M.2.2.1) (ret := M.2.2.2.1) hO.1 ?_ ?_
  · intro args s m hp hn'
    obtain ⟨meth, c, h1, h2, h3, h4, h5, h6, -⟩ := hO.spec (atoms_spec (ws := xv_T) hp) hn'
    exact ⟨meth, c, h1, h2, h3, h4, h5, h6⟩
  · intro p e s m args below meth c s₁ B hml hP _
    obtain ⟨rfl, hPic, hsz, hK, hB, hpr⟩ := hP
    have hts := atoms_spec (ws := xv_T) B.pre
    obtain ⟨meth', c', g1, g2, g3, g4, g5, g6, g7, -⟩ := hO.spec hts B.named
    have X := Stand.of_body B
    have e1 : meth' = meth := Option.some.inj (g1.symm.trans B.method)
    subst e1
    have e2 : c' = c := Option.some.inj (g2.symm.trans X.code)
    subst e2
    have hh0 : s₁.heap = s.heap := by rw [B.state]; rfl
    have hlen : (lg_sl as).length ≤ M.2.2.1 := by rw [xa_sl_len as hcat]; exact hn
    have hl := lv_entry as hlen
    have hL : xa_L ((lg_sl as ++ List.replicate (M.2.2.1 - (lg_sl as).length) Slot.unset).toArray) M.2.2.1 (as.map some ++ List.replicate (M.2.2.1 - as.length) none) := by
      refine ⟨hl.1, hl.2.1, fun i v hi => ?_⟩
      by_cases hi2 : i < as.length
      · rw [List.getElem?_append_left (by simpa using hi2), List.getElem?_map] at hi
        obtain ⟨w, hw, hw2⟩ := Option.map_eq_some_iff.mp hi
        cases hw2
        have := xa_args_mem as 0 hcat i v hw
        rw [Nat.zero_add] at this
        exact ⟨hl.2.2 (i, v) this, hcat v (List.mem_of_getElem? hw)⟩
      · rw [List.getElem?_append_right (by simpa using Nat.not_lt.mp hi2), List.getElem?_replicate] at hi
        split at hi <;> cases hi
    obtain ⟨t, a1, o, b1, b2, b3, b4⟩ := k p e (headSpec xv_T (xa_rm dp kc ks)).room s m as.toArray below meth' c' s.heap [] 0 0 _ kc ks
      ⟨B.exec, B.bytes, hml, findClass_of_methodNamed B.named, hts, B.returns, B.notSynchronized, (name_of_methodNamed B.named B.method).1, g7, hK, Nat.le_refl _, Nat.le_refl _, by rw [hsz]; exact hB, hpr⟩
      (by omega) (by omega) (Nat.le_refl _) (Nat.le_refl _) hL hPic hsz va_S.rf s₁ hh0 X
    refine ⟨t, o, ?_, b1, b2, b3, b4⟩
    rw [lg_entry_eq]
    exact a1
/-- a call: the callee comes back, by a value or by a throw -/
theorem xa_comes {G : xa_G} {M : xa_M} {dp kc ks : Nat} {as : List Value} {h : xa_H} {sz : Nat} {Q : Outcome → xa_H → Nat → Prop} {p : Program} {e : Env} {R : Room} {s : State} {m : MethodId} {args : Array Value} {below : List Frame} {meth : Method} {c : Code} {U : State} {locs : List Loc} {cells slots : Nat}
    (hM : xa_T G M dp kc ks as h sz Q) (hO : xa_O M) (X : Stand p G.1 e R s m args below meth c U locs cells slots) (hts : ∀ w ∈ xv_T, w.before args s = true) {g : JFrame} (hg : g.method = m) (hsize : g.locals.size = c.maxLocals) {ig : Instr} (hdg : decode c.code g.pc = .ok (ig, 3))
    (hw : 2 * g.monitorRoom + (g.stack.map fun v => v.category).sum ≤ 8) {mk : MethodId} (hn : U.methodNamed? M.1 = some mk) (hfr : dp + 1 ≤ R.frames) (hlo : 8 + (M.2.2.1 + 11) + 128 * dp ≤ R.locals) (hc : cells + kc ≤ R.cells) (hs : slots + ks ≤ R.slots) (hP : xa_Pc G as h sz as.toArray U) :
    ∃ (o : Outcome) (T' : State) (L : List Loc) (h' : xa_H), Stand p G.1 e R s m args below meth c T' (locs ++ L) (cells + kc) (slots + ks) ∧ (∀ q ∈ L, G.2.2.1 ≤ q.base) ∧ Q o h' T'.heap.size ∧ xa_P G h' T'.heap ∧ U.heap.size ≤ T'.heap.size ∧ (∀ q, q < U.heap.size → ¬ G.2.2.1 ≤ q → T'.heap[q]? = U.heap[q]?) ∧
      Steps p.tables e below (doInvoke e (U.setTop g) [] mk as.toArray).1 (match o with
        | .returned v => T'.setTop { g with pc := g.pc + 3, stack := v.toList ++ g.stack }
        | .threw x => (T'.setTop g).pushFrame (.throwing x)) := by
  have hwU := xa_words hts as.toArray X.warmed
  obtain ⟨methY, cY, hmY, hcY, -, hlY, -⟩ := hO.spec hwU hn
  obtain ⟨kY, hkY, -⟩ := className_of_methodNamed hn
  have hinitY : kY.init = .initialized := Cond.initialized_spec (findClass_of_methodNamed hn) hkY (hwU _ hO.2.2.1)
  have hA : At U g.method c below := by rw [hg]; exact X.here
  have happ : (headSpec xv_T (xa_rm dp kc ks)).appliesLoose M.1 e.platform (U.calling g mk as.toArray) = true :=
    Spec.appliesLoose_calling (g := g) hA hdg hn hkY hinitY
      (X.room_calling (g := g) (R' := (headSpec xv_T (xa_rm dp kc ks)).room) hsize hmY hcY hfr (by rw [hlY]; show _ + _ + 128 * dp ≤ _; omega) hc hs) (atoms_intro hwU)
  obtain ⟨mid, hmid⟩ := hA.above
  have hfr' : (U.setTop g).frames = (.java g :: mid) ++ below := by rw [State.frames_setTop' g hA.top, hmid]; rfl
  have hPc : xa_Pc G as h sz as.toArray (U.calling g mk as.toArray) := by
    obtain ⟨q1, q2, q3, q4, q5, q6⟩ := hP
    exact ⟨q1, q2, q3, q4.moved (u := U) (U := U.calling g mk as.toArray) (Vm.Alike.refl U.vm), q5, xa_pr_calling q6⟩
  obtain ⟨o, s₂, hsteps, -, hend, hq⟩ := Steps.callFree hM p X.admits X.cas X.clock (acts := []) hfr' happ hPc trivial
  have hq' : xa_Qc G kc ks Q as.toArray (U.calling g mk as.toArray) o s₂ := hq
  rw [State.frames_setTop' g hA.top] at hend
  obtain ⟨⟨⟨h', hQ, hP'⟩, hF1, hF2⟩, L, hW₂, ⟨e2, q2, q3, q4, q5, q6⟩, hL⟩ := hq'
  have e3 : s₂ = ({ (U.calling g mk as.toArray).setFrames s₂.frames with heap := s₂.heap, slotsUsed := s₂.slotsUsed } : State).setVm s₂.vm := by
    have : s₂ = ({ s₂ with vm := (U.calling g mk as.toArray).vm } : State).setVm s₂.vm := rfl
    rw [e2] at this
    exact this
  have hW' : U.WarmedH s₂.vm := hW₂
  obtain ⟨g₀, hg0⟩ := Option.isSome_iff_exists.mp hA.top
  obtain ⟨r, hr⟩ := State.topJava?_eq_some.mp hg0
  have hr' : (({ U with heap := s₂.heap, slotsUsed := s₂.slotsUsed } : State).setVm s₂.vm).frames = .java g₀ :: r := hr
  have hsame : U.sameButNew ({ U with heap := s₂.heap, slotsUsed := s₂.slotsUsed } : State) L kc ks := by
    refine ⟨?_, q2, q3, q4, q5, q6⟩
    obtain ⟨t, ht, -⟩ := State.frames_cons hr
    show ({ U with heap := s₂.heap, slotsUsed := s₂.slotsUsed } : State) = { U.setFrames U.frames with heap := s₂.heap, slotsUsed := s₂.slotsUsed }
    rw [State.setFrames_self ht]
  refine ⟨o, (({ U with heap := s₂.heap, slotsUsed := s₂.slotsUsed } : State).setVm s₂.vm), L, h',
    ⟨X.admits, X.cas, X.clock, X.frames, X.room, X.hears, X.method, X.code, (X.here.setHeapUsed s₂.heap s₂.slotsUsed).setVm hW'.alike, X.tail, State.WarmedH.trans X.warmed hW', X.limits, X.bytes, X.same.trans (hsame.setVm s.vm)⟩,
    hL, hQ, hP', hF1, hF2, ?_⟩
  cases o with
  | returned v =>
    obtain ⟨c₂, i₂, len₂, hc₂, hd₂, hf₂⟩ := hend
    have hcc : c₂ = c := by
      have h1 : s₂.code? g.method = U.code? g.method := by
        rw [State.code?_eq, State.code?_eq, hW'.alike.method?]
      exact Option.some.inj (hc₂.symm.trans (h1.trans hA.code))
    subst hcc
    have hlen : len₂ = 3 := by rw [hdg] at hd₂; cases hd₂; rfl
    subst hlen
    have hs₂ : s₂ = (({ U with heap := s₂.heap, slotsUsed := s₂.slotsUsed } : State).setVm s₂.vm).setTop { g with pc := g.pc + 3, stack := v.toList ++ g.stack } := by
      refine e3.trans ?_
      rw [hf₂, State.calling_eq hA.top, State.setFrames_setFrames, State.setTop_of_frames _ hr', hr]
      rfl
    show Steps p.tables e below _ ((({ U with heap := s₂.heap, slotsUsed := s₂.slotsUsed } : State).setVm s₂.vm).setTop { g with pc := g.pc + 3, stack := v.toList ++ g.stack })
    rw [← hs₂]
    exact hsteps
  | threw x =>
    have hf₂ : s₂.frames = .throwing x :: .java g :: U.frames.tail := hend
    have hs₂ : s₂ = ((({ U with heap := s₂.heap, slotsUsed := s₂.slotsUsed } : State).setVm s₂.vm).setTop g).pushFrame (.throwing x) := by
      refine e3.trans ?_
      rw [hf₂, State.calling_eq hA.top, State.setFrames_setFrames, State.pushFrame, State.frames_setTop _ hr', State.setTop_of_frames _ hr', State.setFrames_setFrames, hr]
      rfl
    show Steps p.tables e below _ (((({ U with heap := s₂.heap, slotsUsed := s₂.slotsUsed } : State).setVm s₂.vm).setTop g).pushFrame (.throwing x))
    rw [← hs₂]
    exact hsteps
/-- the walk with an exception x on its way, thrown at pc -/
def xa_X (G : xa_G) (M : xa_M) (dp kc ks pc : Nat) (L : List (Option Value)) (st : List Value) (x : Nat) (h : xa_H) (sz : Nat) (Q : Outcome → xa_H → Nat → Prop) : Prop :=
  ∀ (p : Program) (e : Env) (R : Room) (s : State) (m : MethodId) (args : Array Value) (below : List Frame) (meth : Method) (c : Code) (H : Heap) (locs : List Loc) (cells slots : Nat) (ls : Array Slot) (kT nT : Nat),
    xa_C G M dp p e R s m args meth c → cells + kc ≤ kT → slots + ks ≤ nT → kT ≤ R.cells → nT ≤ R.slots → xa_L ls M.2.2.1 L → xa_P G h H → H.size = sz → va_S (fun q => G.2.2.1 ≤ q) s.heap H locs →
    ∀ T : State, T.heap = H → Stand p G.1 e R s m args below meth c T locs cells slots → ∃ t, Steps p.tables e below ((T.setTop (F0 m pc ls st)).pushFrame (.throwing x)) t ∧ xa_Q G s below kT nT Q t
def xa_out (M : xa_M) (pc : Nat) : Prop := M.2.2.2.2.all (fun q => !(decide (q.1 ≤ pc) && decide (pc < q.2.1))) = true
theorem xa_out.spec {M : xa_M} {pc : Nat} (h : xa_out M pc) {c : Code} (hc : xa_tb c.exceptionTable = M.2.2.2.2) : ∀ x ∈ c.exceptionTable.toList, covers x pc = false := by
  intro x hx
  unfold xa_out at h
  rw [← hc, List.all_eq_true] at h
  have := h _ (List.mem_map.mpr ⟨x, hx, rfl⟩)
  have h9 : ¬ (x.startPc ≤ pc ∧ pc < x.endPc) := by
    intro q
    simp [q.1, q.2] at this
  unfold covers
  rw [Bool.and_eq_false_iff, decide_eq_false_iff_not, decide_eq_false_iff_not]
  omega
theorem xx_out {G : xa_G} {M : xa_M} {dp kc ks pc : Nat} {L : List (Option Value)} {st : List Value} {x : Nat} {h : xa_H} {sz : Nat} {Q : Outcome → xa_H → Nat → Prop} (ho : xa_out M pc) (hq : Q (.threw x) h sz) : xa_X G M dp kc ks pc L st x h sz Q := by
  intro p e R s m args below meth c H locs cells slots ls kT nT C h1 h2 h3 h4 hl hP hz hS T hT X
  obtain ⟨st1, r1, r2, r3, r4⟩ := X.leaveThrown x (g := F0 m pc ls st) rfl rfl rfl (ho.spec C.2.2.2.2.2.2.2.2.1) C.2.2.2.2.2.2.1
  refine ⟨_, st1, .threw x, r1, r2, ⟨⟨h, ?_, ?_⟩, hS.F hT⟩, locs, r3, r4.mono (by omega) (by omega), hS.2.2⟩
  · show Q (.threw x) h T.heap.size
    rw [hT, hz]
    exact hq
  · show xa_P G h T.heap
    rw [hT]
    exact hP
/-- the step into a callee -/
def xa_inv (G : xa_G) (M M' : xa_M) (pc : Nat) (stk as rest : List Value) (h : xa_H) : Prop :=
  ∀ (p : Program) (e : Env) (R : Room) (s : State) (m : MethodId) (args : Array Value) (below : List Frame) (meth : Method) (c : Code) (H : Heap) (locs : List Loc) (cells slots : Nat) (ls : Array Slot),
    p.tables.exec = Jvm.exec → c.code = M.2.1 → s.vm.findClass M.1.cls = some m.cls → (∀ w ∈ xv_T, w.before args s = true) → xa_K G.2.1 s → xa_P G h H → ∀ T : State, T.heap = H → Stand p G.1 e R s m args below meth c T locs cells slots →
    (∃ ig, decode M.2.1 pc = .ok (ig, 3)) ∧ ∃ (vm₁ : Vm) (mk : MethodId), Stand p G.1 e R s m args below meth c (T.setVm vm₁) locs cells slots ∧ s.methodNamed? M'.1 = some mk ∧
      ∀ target, (∀ acts, Steps p.tables e below (doInvoke e ((T.setVm vm₁).setTop (F0 m pc ls rest)) acts mk as.toArray).1 target) → Steps p.tables e below (T.setTop (F0 m pc ls stk)) target
theorem xw_call {G : xa_G} {M M' : xa_M} {dp dp' kc ks kc' ks' pc : Nat} {L : List (Option Value)} {stk as rest : List Value} {h : xa_H} {sz : Nat} {Q Q' : Outcome → xa_H → Nat → Prop} (hI : xa_inv G M M' pc stk as rest h) (hT : xa_T G M' dp' kc' ks' as h sz Q') (hO : xa_O M') (hdp : dp' + 1 ≤ dp) (hml : M'.2.2.1 ≤ 100) (hst : (rest.map fun v => v.category).sum ≤ 8)
    (hret : ∀ v h' z, Q' (.returned v) h' z → xa_W G M dp kc ks (pc + 3) L (v.toList ++ rest) h' z Q) (hthr : ∀ x h' z, Q' (.threw x) h' z → xa_X G M dp kc ks pc L rest x h' z Q) : xa_W G M dp (kc + kc') (ks + ks') pc L stk h sz Q := by
  intro p e R s m args below meth c H locs cells slots ls kT nT C h1 h2 h3 h4 hl hP hz hS T hTH X
  have C' := C
  obtain ⟨hx, hb, hmL, hown, hts, -, -, -, -, hK, hf, hlo, hBs, hpr⟩ := C'
  obtain ⟨⟨ig, hdg⟩, vm₁, mk, X₁, hnm, step⟩ := hI p e R s m args below meth c H locs cells slots ls hx hb hown hts hK hP T hTH X
  have hPc : xa_Pc G as h sz as.toArray (T.setVm vm₁) := by
    refine ⟨rfl, ?_, ?_, hK.moved X₁.warmed.alike, ?_, hpr.to X₁.warmed ?_⟩
    · show xa_P G h T.heap
      rw [hTH]; exact hP
    · show T.heap.size = sz
      rw [hTH]; exact hz
    · have := hS.1
      omega
    · intro a ha hna
      show T.heap[a]? = _
      rw [hTH]
      exact hS.2.1 a ha hna
  obtain ⟨o, T', Lc, h', X', hL, hQ, hP', z1, z2, st2⟩ := xa_comes (g := F0 m pc ls rest) (ig := ig) hT hO X₁ hts rfl (hl.1.trans hmL.symm) (by rw [hb]; exact hdg) (by show 2 * 0 + (rest.map fun v => v.category).sum ≤ 8; omega) (X₁.named hnm) (by omega) (by omega) (by omega) (by omega) hPc
  have z1' : H.size ≤ T'.heap.size := by rw [← hTH]; exact z1
  have z2' : ∀ q, q < H.size → ¬ G.2.2.1 ≤ q → T'.heap[q]? = H[q]? := by rw [← hTH]; exact z2
  have hS' : va_S (fun q => G.2.2.1 ≤ q) s.heap T'.heap (locs ++ Lc) := by
    refine ⟨Nat.le_trans hS.1 z1', fun q g1 g2 => (z2' q (Nat.lt_of_lt_of_le g1 hS.1) g2).trans (hS.2.1 q g1 g2), fun q hq => ?_⟩
    rcases List.mem_append.mp hq with g | g
    · exact hS.2.2 q g
    · exact hL q g
  have hgo := step _ (fun acts => by rw [doInvoke_state]; exact st2)
  cases o with
  | returned v =>
    obtain ⟨t, a1, b1⟩ := hret v h' _ hQ p e R s m args below meth c T'.heap (locs ++ Lc) (cells + kc') (slots + ks') ls kT nT C (by omega) (by omega) h3 h4 hl hP' rfl hS' T' rfl X'
    exact ⟨t, hgo.trans a1, b1⟩
  | threw x =>
    obtain ⟨t, a1, b1⟩ := hthr x h' _ hQ p e R s m args below meth c T'.heap (locs ++ Lc) (cells + kc') (slots + ks') ls kT nT C (by omega) (by omega) h3 h4 hl hP' rfl hS' T' rfl X'
    exact ⟨t, hgo.trans a1, b1⟩
theorem xi_S {G : xa_G} {M M' : xa_M} {pc index n : Nat} {as rest : List Value} {h : xa_H} (hd : decode M.2.1 pc = .ok (.invokestatic index, 3)) (hO : xa_O M') (hl : Cond.methodLink M.1.cls index M'.1 ∈ xv_T) (hs : Cond.static M'.1 ∈ xv_T) (hn : (parseMethodDescriptor M'.1.desc).map (fun d => d.parameters.length) = some n) (ha : as.length = n) : xa_inv G M M' pc (as.reverse ++ rest) as rest h := by
  intro p e R s m args below meth c H locs cells slots ls hx hb hown hts hK hP T hT X
  obtain ⟨mk, hnm⟩ : ∃ mk, s.methodNamed? M'.1 = some mk := by
    rcases hO.2.1 with h1 | h1
    · obtain ⟨m', _, _, hn', -⟩ := Cond.codeWith_spec (hts _ h1)
      exact ⟨m', hn'⟩
    · exact Cond.code_named (hts _ h1.2)
  obtain ⟨methM, cM, hmM, -, -, -, -, -, -, hsig⟩ := hO.spec hts hnm
  obtain ⟨kP, hkP, -⟩ := className_of_methodNamed hnm
  have hinit : kP.init = .initialized := Cond.initialized_spec (findClass_of_methodNamed hnm) hkP (hts _ hO.2.2.1)
  have hst : methM.isStatic = true := Cond.static_spec hnm hmM (hts _ hs)
  have hlen : as.length = methM.sig.parameters.length := by
    rw [hsig] at hn
    rw [ha]
    exact (Option.some.inj hn).symm
  obtain ⟨vm₁, X₁, step⟩ := X.invokestatic hx hown (hts _ hl) hnm hmM hst hkP hinit hO.2.2.2 (g := F0 m pc ls (as.reverse ++ rest)) rfl (argsL := as) (rest := rest) hlen rfl (by rw [hb]; exact hd)
  exact ⟨⟨_, hd⟩, vm₁, mk, X₁, hnm, step⟩
theorem xi_V {G : xa_G} {M M' : xa_M} {pc index n b ci : Nat} {r : vw_C} {fs As rest : List Value} {h : xa_H} (hd : decode M.2.1 pc = .ok (.invokevirtual index, 3)) (hO : xa_O M') (hl : Cond.methodLink M.1.cls index M'.1 ∈ xv_T) (hi : Cond.instanceMethod M'.1 ∈ xv_T) (hc : xv_c[ci]? = some r) (hsel : Cond.selects r.1 M'.1 M'.1 ∈ xv_T) (hn : (parseMethodDescriptor M'.1.desc).map (fun d => d.parameters.length) = some n) (ha : As.length = n) (hb : h b = some (.inr (ci, fs))) : xa_inv G M M' pc (As.reverse ++ .ref b :: rest) (.ref b :: As) rest h := by
  intro p e R s m args below meth c H locs cells slots ls hx hbc hown hts hK hP T hT X
  obtain ⟨cellB, hcB, hobj, hcls⟩ := xa_recv hK hP hc hb
  obtain ⟨mk, methM, hnm, hmM, hstM, habM⟩ := Cond.instanceMethod_spec (hts _ hi)
  obtain ⟨methM', cM, hmM', -, -, -, -, -, -, hsig⟩ := hO.spec hts hnm
  cases hmM.symm.trans hmM'
  obtain ⟨c2, r2, m2, q1, q2, q3, q4, kP, hkP, hkPi⟩ := Cond.selects_spec (hts _ hsel)
  cases hcls.symm.trans q1
  cases (State.methodFound?_of_named hnm hO.2.2.2).symm.trans q2
  cases hnm.symm.trans q3
  have hselP : selectMethod e.platform s.vm cellB.cls mk = .method mk := by rw [Launch.admits_selectMethod X.admits]; exact q4
  have hlen : As.length = methM.sig.parameters.length := by
    rw [hsig] at hn
    rw [ha]
    exact (Option.some.inj hn).symm
  obtain ⟨vm₁, X₁, step⟩ := X.invokevirtual hx hown (hts _ hl) hnm hmM hstM hkP hkPi hO.2.2.2 (a := b) (cell := cellB) (by rw [hT]; exact hcB)
    (fun z hz => by rw [hz] at hobj; cases hobj) hselP hmM habM hkP hkPi (g := F0 m pc ls (As.reverse ++ .ref b :: rest)) rfl (argsL := As) (rest := rest) hlen rfl (by rw [hbc]; exact hd)
  exact ⟨⟨_, hd⟩, vm₁, mk, X₁, hnm, step⟩
theorem xi_I {G : xa_G} {M M' : xa_M} {pc index n b : Nat} {As rest : List Value} {h : xa_H} (hd : decode M.2.1 pc = .ok (.invokespecial index, 3)) (hO : xa_O M') (hy : M'.1.name = "<init>") (hcw : Cond.code M'.1 M'.2.1 M'.2.2.1 none ∈ xv_T) (hl : Cond.methodLink M.1.cls index M'.1 ∈ xv_T) (hi : Cond.instanceMethod M'.1 ∈ xv_T) (hn : (parseMethodDescriptor M'.1.desc).map (fun d => d.parameters.length) = some n) (ha : As.length = n) : xa_inv G M M' pc (As.reverse ++ .ref b :: rest) (.ref b :: As) rest h := by
  intro p e R s m args below meth c H locs cells slots ls hx hbc hown hts hK hP T hT X
  have hpl : e.platform.magicAccessors = ({} : Platform).magicAccessors := by rw [X.admits.platform]
  obtain ⟨mk, methM, cM, kP, vm₁, hnm, hmM, hcM, -, hlM, -, hkP, -, hW₁, step⟩ := Steps.initColdArgs (e := e) X.here hx X.warmed hpl hown hy hO.2.2.2 (hts _ hl) (hts _ hi) (hts _ hcw) (f := F0 m pc ls (As.reverse ++ .ref b :: rest)) rfl (a := b) (argsL := As) (rest := rest) (fun sig hs => by
    rw [hs] at hn
    rw [ha]
    exact (Option.some.inj hn).symm) rfl (by rw [hbc]; exact hd)
  exact ⟨⟨_, hd⟩, vm₁, mk, X.noted hW₁, hnm, step⟩
end
section
/-! a walk begun anew at a state that it has come to -/
theorem xa_hears {s T : State} {m : MethodId} {fs below : List Frame} (hvm : s.vm.Alike T.vm) (h : s.hears m below = true) : (T.setFrames fs).hears m below = true := by
  cases below with
  | nil =>
    simp only [State.hears] at h ⊢
    show (T.vm.method? m).any _ = true
    rw [hvm.method?]
    exact h
  | cons f r =>
    cases f with
    | java g =>
      simp only [State.hears] at h ⊢
      have e1 : (T.setFrames fs).code? g.method = s.code? g.method := by
        rw [State.code?_eq, State.code?_eq]
        show (T.vm.method? _).bind _ = _
        rw [hvm.method?]
      rw [e1]
      exact h
    | native _ => rfl
    | proc _ => rfl
    | _ =>
      simp only [State.hears] at h ⊢
      show (T.vm.method? m).any _ = true
      rw [hvm.method?]
      exact h
theorem xa_rebase {p : Program} {l : Launch} {e : Env} {R : Room} {s : State} {m : MethodId} {args : Array Value} {below : List Frame} {meth : Method} {c : Code} {T : State} {locs : List Loc} {cells slots : Nat} (X : Stand p l e R s m args below meth c T locs cells slots) (hc : cells ≤ R.cells) (hs : slots ≤ R.slots) :
    Stand p l e { R with cells := R.cells - cells, slots := R.slots - slots } (T.setFrames (.invoking m args :: below)) m args below meth c T [] 0 0 := by
  obtain ⟨g₀, hfr⟩ := X.frames_eq
  have hcur : T.cur < T.threads.size := State.cur_lt_of_frames hfr
  have hF : (T.setFrames (.invoking m args :: below)).frames = .invoking m args :: below := State.frames_setFrames _ hcur
  have hm' : (T.setFrames (.invoking m args :: below)).vm.method? m = some meth := X.method'
  refine ⟨X.admits, X.cas, X.clock, hF, ?_, xa_hears X.warmed.alike X.hears, hm', X.code, X.here, X.tail, State.WarmedH.refl _, ?_, ?_, ?_⟩
  · have h := X.room
    simp only [State.hasRoom, Bool.and_eq_true, decide_eq_true_eq] at h ⊢
    obtain ⟨⟨⟨⟨r1, r2, r3, r4, r5, r6⟩, r7⟩, r8⟩, r9⟩ := h
    rw [State.localsInUse_invoking hF hm' X.code, State.stackLimits_setFrames, State.stackBytes_setFrames, hF, X.limits, X.bytes]
    rw [State.localsInUse_invoking X.frames X.method X.code] at r1 r4 r5
    rw [X.frames] at r2 r3
    have z1 := X.heapSize
    have z2 := X.used
    have z3 := X.book
    refine ⟨⟨⟨⟨r1, r2, r3, r4, r5, r6⟩, ?_⟩, ?_⟩, z3⟩
    · show T.heap.size + (R.cells - cells) ≤ _
      omega
    · show T.slotsUsed + (R.slots - slots) ≤ _
      omega
  · rw [State.stackLimits_setFrames]
  · rw [State.stackBytes_setFrames]
  · refine ⟨?_, Nat.le_refl _, Nat.le_refl _, ?_, ?_, fun a c h => ⟨c, h, rfl, rfl, fun _ _ => rfl⟩⟩
    · obtain ⟨t, ht, -⟩ := State.frames_cons hfr
      show T = { (T.setFrames (.invoking m args :: below)).setFrames T.frames with heap := T.heap, slotsUsed := T.slotsUsed }
      rw [State.setFrames_setFrames, State.setFrames_self ht]
    · show T.slotsUsed = T.slotsUsed + ((T.heap.toList.drop T.heap.size).map _).sum
      rw [List.drop_eq_nil_of_le (by simp)]
      rfl
    · show ((T.heap.toList.drop T.heap.size).map _).sum ≤ 0
      rw [List.drop_eq_nil_of_le (by simp)]
      exact Nat.le_refl _
theorem xa_rejoin {s T U : State} {m : MethodId} {args : Array Value} {below : List Frame} {locs L : List Loc} {cells slots k n : Nat} (h1 : s.sameButNew (T.setVm s.vm) locs cells slots) (h2 : (T.setFrames (.invoking m args :: below)).sameButNew ({ U with vm := (T.setFrames (.invoking m args :: below)).vm } : State) L k n) : s.sameButNew ({ U with vm := s.vm } : State) (locs ++ L) (cells + k) (slots + n) := by
  have h3 : (T.setVm s.vm).sameButNew ({ U with vm := s.vm } : State) L k n := by
    obtain ⟨q1, q2, q3, q4, q5, q6⟩ := h2
    refine ⟨?_, q2, q3, q4, q5, q6⟩
    have q7 : ({ U with vm := T.vm } : State) = { T.setFrames U.frames with heap := U.heap, slotsUsed := U.slotsUsed } := by
      refine Eq.trans q1 ?_
      rw [State.setFrames_setFrames]
      rfl
    have q8 := congrArg (fun z : State => { z with vm := s.vm }) q7
    exact q8
  exact h1.trans h3
/-- an exception is made with a text, and leaves the method: the constructor of its class names that of the class above by the entry ix -/
theorem xz_ctor {p : Program} {l : Launch} {e : Env} {R : Room} {s : State} {m₀ : MethodId} {args : Array Value} {below : List Frame} {meth : Method} {c : Code} {W : State} {locs : List Loc} {cells slots : Nat} (X : Stand p l e R s m₀ args below meth c W locs cells slots) (hexec : p.tables.exec = Jvm.exec) (htr : e.platform.stackTraces = false) {own cls : String} {names : List String} {ic ix : Nat} {rx : ByteArray}
    (xd : decode rx 0 = .ok (.aload_n 0, 1) ∧ decode rx 1 = .ok (.aload_n 1, 1) ∧ decode rx 2 = .ok (.invokespecial ix, 3) ∧ decode rx 5 = .ok (.return_, 1))
    (hown : s.vm.findClass own = some m₀.cls) (hcls : Bundle.fit cls = true) (hnames : ∀ n ∈ names, Bundle.fit n = true) (h : ∀ w ∈ Bundle.ownAtomsX own ic cls ix rx names, w.before args s = true) (hlocs : ∀ x ∈ locs, ∀ cell, s.heap[x.base]? = some cell → cell.vm.isStatics = false)
    {a : Addr} {cX : ClassId} {kX : Class} (hfX : s.vm.findClass cls = some cX) (hkX : s.vm.classes[cX]? = some kX) (hcell : W.heap[a]? = some (freshCell cX kX)) (hnew : s.heap.size ≤ a) {msg : Value} (hmsg : msg.isRef = true)
    {g : JFrame} (hg : g.method = m₀) (hsize : g.locals.size = c.maxLocals) (hlocked : g.locked = none) (hentered : g.entered = []) {rest : List Value} (hstack : g.stack = msg :: .ref a :: .ref a :: rest)
    (hd6 : decode c.code g.pc = .ok (.invokespecial ic, 3)) (hd9 : decode c.code (g.pc + 3) = .ok (.athrow, 1)) (hout : ∀ x ∈ c.exceptionTable.toList, covers x (g.pc + 3) = false) (hRf : names.length + 3 < R.frames) (hRl : 2 * g.monitorRoom + ((Value.ref a :: rest).map fun v => v.category).sum + (13 * (names.length + 1) + 42) ≤ R.locals) (hlk : meth.locks = false) :
    ∃ U : State, Steps p.tables e below (W.setTop g) U ∧ U.status = .running ∧ Ended U below (.threw a) ∧ s.WarmedH U.vm ∧ s.sameButNew ({ U with vm := s.vm } : State) locs cells slots ∧ ∃ ce : Cell, U.heap[a]? = some ce ∧ ce.cls = cX ∧ ce.vm = .none := by
  obtain ⟨x0, x1, x2, x5⟩ := xd
  have hpl : e.platform.magicAccessors = ({} : Platform).magicAccessors := by rw [X.admits.platform]
  have word : ∀ w, w ∈ Bundle.ownAtomsX own ic cls ix rx names → w.before args s = true := fun w hw => h w hw
  obtain ⟨T, Z0, L, _, Y⟩ := ThrowableC.of_atoms (args := args) (by rw [X.admits.platform]) (by rw [X.admits.platform]) hpl (fun w hw => word w (by simp [Bundle.ownAtomsX, hw]))
  obtain ⟨Z, M, LZ, LM, hZ⟩ := Init0T.ofS_atoms (args := args) hpl L Y (fun w hw => word w (by simp [Bundle.ownAtomsX, hw]))
  obtain ⟨P, Ps, hlen, LP, hLs, hPm, hup, hups⟩ := Bundle.chainSX (args := args) hpl hZ x0 x1 x2 x5 names cls hcls hnames (fun w hw => word w (by simp [Bundle.ownAtomsX, hw]))
  cases Option.some.inj (hfX.symm.trans (findClass_of_methodNamed hPm))
  obtain ⟨c1, k1, q1, q2, hord, -, -, -⟩ := Cond.instantiable_spec (word (.instantiable cls 6) (by simp [Bundle.ownAtomsX]))
  cases Option.some.inj (q1.symm.trans hfX)
  cases Option.some.inj (hkX.symm.trans q2)
  have sel : ∀ (y : MethodName) (mm : MethodId), Cond.selects cls y y ∈ Bundle.ownAtomsX own ic cls ix rx names → s.methodNamed? y = some mm → s.methodFound? y.cls y.name y.desc = some mm → selectMethod e.platform s.vm P.m.cls mm = .method mm := by
    intro y mm hy hn hf
    obtain ⟨c2, r2, m2, z1, z2, z3, z4, -⟩ := Cond.selects_spec (word _ hy)
    cases Option.some.inj (z1.symm.trans hfX)
    cases Option.some.inj (z2.symm.trans hf)
    cases Option.some.inj (z3.symm.trans hn)
    rw [Launch.admits_selectMethod X.admits]
    exact z4
  have s0 := sel Bundle.tFill0 T.fill0 (by simp [Bundle.ownAtomsX]) Y.fill0 (State.methodFound?_of_named Y.fill0 (by decide))
  have s1 := sel Bundle.tFill T.fill (by simp [Bundle.ownAtomsX]) Y.fill (State.methodFound?_of_named Y.fill (by decide))
  obtain ⟨cS, hcS, hSt⟩ := Y.statics
  obtain ⟨u0, hu0⟩ := Cond.staticRefV Y.unassigned L.unassignedStatic L.statics hcS hSt (word (.isRef (.static Bundle.tN "UNASSIGNED_STACK" Bundle.steD)) (by simp [Bundle.ownAtomsX]))
  obtain ⟨se, hse⟩ := Cond.staticRefV Y.sentinel L.sentinelStatic L.statics hcS hSt (word (.isRef (.static Bundle.tN "SUPPRESSED_SENTINEL" Bundle.listD)) (by simp [Bundle.ownAtomsX]))
  obtain ⟨b1, b2, fB, b3, b4, b5, b6, -, b7, b8, b9⟩ := Cond.ownField (t := .object "java/lang/Object") Y.found L.cls (by decide +kernel) (word (.fieldLink Bundle.tN 198 Bundle.tN "backtrace" "Ljava/lang/Object;") (by simp [Bundle.ownAtomsX])) (word (.lays Bundle.tN Bundle.tN "backtrace" "Ljava/lang/Object;") (by simp [Bundle.ownAtomsX])) e.platform hpl
  obtain ⟨cS', w1, w2, -, w3⟩ := X.same.2.2.2.2.2 T.aS cS hcS
  have w1 : W.heap[T.aS]? = some cS' := w1
  have apart : ∀ i, (⟨T.aS, i⟩ : Loc) ∉ locs := fun i hm => by
    have hh := hlocs _ hm cS hcS
    rw [hSt] at hh
    cases hh
  have known : cS'.vm ≠ .unknown := by
    intro hh
    rw [w2] at hh
    rw [show cS.vm = .unknown from hh] at hSt
    cases hSt
  have far : T.aS ≠ a := Nat.ne_of_lt (Nat.lt_of_lt_of_le (Array.getElem?_eq_some_iff.mp hcS).1 hnew)
  obtain ⟨iM, hM⟩ := Y.msg
  obtain ⟨tC, dC, hC, nC⟩ := Cond.laysAt hfX hkX Y.cause (word (.lays cls Bundle.tN "cause" "Ljava/lang/Throwable;") (by simp [Bundle.ownAtomsX]))
  obtain ⟨tS, dS, hS, nS⟩ := Cond.laysAt hfX hkX Y.stack (word (.lays cls Bundle.tN "stackTrace" Bundle.steD) (by simp [Bundle.ownAtomsX]))
  obtain ⟨tP, dP, hP, nP⟩ := Cond.laysAt hfX hkX Y.supp (word (.lays cls Bundle.tN "suppressedExceptions" Bundle.listD) (by simp [Bundle.ownAtomsX]))
  obtain ⟨tM, dM, hDM, nM⟩ := Cond.laysAt hfX hkX hM (word (.lays cls Bundle.tN "detailMessage" "Ljava/lang/String;") (by simp [Bundle.ownAtomsX]))
  obtain ⟨tB, dB, hDB, nB⟩ := Cond.laysAt hfX hkX b9 (word (.lays cls Bundle.tN "backtrace" "Ljava/lang/Object;") (by simp [Bundle.ownAtomsX]))
  have a1 := Cond.laysApart hDB hC nB nC (by rw [b7, Y.causeName]; decide)
  have a2 := Cond.laysApart hDB hS nB nS (by rw [b7, Y.stackName]; decide)
  have a3 := Cond.laysApart hDB hP nB nP (by rw [b7, Y.suppName]; decide)
  have skip : SkipFacts T e.platform s (fun u => u) u0 ((preparedCellV T.toThrowableT (freshCell P.m.cls kX) a u0 se).withEntry W.cur) :=
    ⟨{ ci198 := b1, i198 := b2, fBack := fB }, ⟨b3, b4, b5, b6⟩, by
      have hh := fresh_default (c := P.m.cls) tB
      rw [b8] at hh
      simpa [preparedCellV, Cell.setSlot, Cell.withEntry, Array.getElem?_setIfInBounds, a1, a2, a3, a1.symm, a2.symm, a3.symm, defaultValue] using hh, fun _ _ => rfl⟩
  obtain ⟨tm, _, _, _, vm1, hnC, -, -, -, -, -, -, -, hW1, st1⟩ := Steps.initColdS (tb := p.tables) (e := e) (below := below) (s := s) (U := W) X.here hexec X.warmed hpl hown (t := Bundle.initS cls) rfl rfl (Bundle.fit_spec hcls).2 (word (.methodLink own ic (Bundle.initS cls)) (by simp [Bundle.ownAtomsX])) (word (.instanceMethod (Bundle.initS cls)) (by cases names <;> simp [Bundle.ownAtomsX, Bundle.chainSAtomsX, Bundle.passSAtoms])) (bytes := rx) (maxL := 2) (word (.code (Bundle.initS cls) rx 2 none) (by cases names <;> simp [Bundle.ownAtomsX, Bundle.chainSAtomsX, Bundle.passSAtoms])) (f := g) hg (a := a) (msg := msg) (rest := .ref a :: rest) hstack hd6
  cases Option.some.inj (hnC.symm.trans hPm)
  obtain ⟨vm2, X2, st2⟩ := (X.noted hW1).ctorMessageOffV hexec (g := { g with stack := .ref a :: rest }) hg hsize T L Z LZ M LM (P :: Ps) (fun Q hQ => by
      rcases List.mem_cons.mp hQ with rfl | hQ
      · exact LP
      · exact hLs Q hQ) ⟨hup, hups⟩ (u0 := u0) (sen := se) (self := a) hmsg (cell := freshCell P.m.cls kX) (cellS := cS') hcell (fun _ => by simp) (by simp) rfl rfl s0 s1 w1 far known (by rw [w3 _ (apart _)]; exact hu0) (by rw [w3 _ (apart _)]; exact hse)
    (Takes.of_laid hkX hord tC (by rw [Y.causeType]; rfl)) (Takes.of_laid hkX hord tS (by rw [Y.stackType]; exact fits_refV_array _ u0)) (Takes.of_laid hkX hord tP (by rw [Y.suppType]; exact fits_refV_object _ se)) (Takes.of_laid hkX hord tM (by rw [Y.msgType]; exact fits_refV_object _ ⟨msg, hmsg⟩)) Y.objLocals skip htr [] hd6 (by simp only [List.length_cons, hlen]; omega) (by simp only [List.length_cons, hlen]; exact hRl)
  obtain ⟨r1, r2, r3, r4, r5⟩ := X2.athrowLeaves hexec (g := { g with stack := .ref a :: rest, pc := g.pc + 3 }) hg hlocked hentered hout (a := a) (rest := rest) rfl hd9
  have hlt : a < ((W.setVm vm1).setVm vm2).heap.size := (Array.getElem?_eq_some_iff.mp hcell).1
  refine ⟨_, st1 _ (fun acts => ?_), r2, r3, r4, r5.weaken (fun y hy hl => ?_) (Nat.le_refl _) (Nat.le_refl _), _, heapAt_setCell_self (s := (W.setVm vm1).setVm vm2) (plainBareV T.toThrowableT (freshCell P.m.cls kX) a u0 se msg) hlt, rfl, rfl⟩
  · rw [doInvoke_state]
    exact st2 _ r1
  · rcases List.mem_append.mp hy with hh | hh
    · exact hh
    · have hb : y.base = a := by
        simp only [List.mem_cons, List.not_mem_nil, or_false] at hh
        rcases hh with rfl | rfl | rfl | rfl | rfl <;> rfl
      rw [hb] at hl
      exact absurd hl (Nat.not_lt.mpr hnew)
/-- what the tables say of an exception's class X (number ci) and of its constructor, named by the entry ic of own's pool, the one above by ix -/
def xa_E0 (own : String) (ia ic ci : Nat) (X : String) (ix : Nat) (rx : ByteArray) (names : List String) : Prop := (∃ F, xv_c[ci]? = some (X, F, 0)) ∧ Bundle.fit X = true ∧ (∀ n ∈ names, Bundle.fit n = true) ∧ names.length ≤ 3 ∧ Cond.classLink own ia X ∈ xv_T ∧ Cond.instantiable X 6 ∈ xv_T ∧ Cond.initialized X ∈ xv_T ∧ (decode rx 0 = .ok (.aload_n 0, 1) ∧ decode rx 1 = .ok (.aload_n 1, 1) ∧ decode rx 2 = .ok (.invokespecial ix, 3) ∧ decode rx 5 = .ok (.return_, 1)) ∧
  ∀ w ∈ Bundle.ownAtomsX own ic X ix rx names, w ∈ xv_T ∨ (w ∈ xv_U ∧ w.onTables = true) ∨ w = Cond.isRef (.static "java/lang/Throwable" "UNASSIGNED_STACK" "[Ljava/lang/StackTraceElement;") ∨ w = Cond.isRef (.static "java/lang/Throwable" "SUPPRESSED_SENTINEL" "Ljava/util/List;") ∨ w = Cond.laysStatic "java/lang/Throwable" "UNASSIGNED_STACK" "[Ljava/lang/StackTraceElement;" ∨ w = Cond.laysStatic "java/lang/Throwable" "SUPPRESSED_SENTINEL" "Ljava/util/List;"
/-- a text from the pool, by the long form -/
theorem xz_ldcw {p : Program} {l : Launch} {e : Env} {R : Room} {s : State} {m : MethodId} {args : Array Value} {below : List Frame} {meth : Method} {c : Code} {H : Heap} {locs : List Loc} {cells slots : Nat} {Q : State → Prop} {cc : ByteArray} {pc : Nat} {ls : Array Slot} {rest : List Value} (hexec : p.tables.exec = Jvm.exec) (hb : c.code = cc) {own tx : String} {index q : Nat} (hown : s.vm.findClass own = some m.cls) (hZ : vk_R own index tx q s) (hdg : decode cc pc = .ok (.ldc_w index, 3))
    (k : W p l e R s m args below meth c H locs cells slots Q (F0 m (pc + 3) ls (.ref q :: rest))) : W p l e R s m args below meth c H locs cells slots Q (F0 m pc ls rest) := by
  intro T hT X
  obtain ⟨t, a1, b1⟩ := k T hT X
  refine ⟨t, ?_, b1⟩
  obtain ⟨k1, cf, i, a', hk, hcf, hcp, -, hr, hev⟩ := Cond.stringRef_spec (args := #[]) hown hZ.1
  cases hZ.2.symm.trans hev
  obtain ⟨k2, hk2, he⟩ := X.warmed.alike.2.2 _ _ hk
  have hr2 : k2.resolved[index]? = some (some (.string q)) := by
    rcases X.warmed.entry hk hk2 index with w | ⟨w, -⟩
    · rw [w]; exact hr
    · rw [hr] at w; cases w
  have hdg' : decode c.code (F0 m pc ls rest).pc = .ok (.ldc_w index, 3) := by rw [hb]; exact hdg
  jvm_step X.here [hexec, hdg', ldc_w.wp_string (e := e) (s := T) (f := F0 m pc ls rest) X.here.top hk2 (by rw [he]; exact hcf) hcp hr2]
  exact a1
set_option maxHeartbeats 4000000 in
/-- throw new X("..") : new, dup, ldc, invokespecial, athrow -/
theorem xw_throwG {G : xa_G} {M : xa_M} {dp kc ks pc ia ib ic ci ln : Nat} {L : List (Option Value)} {st : List Value} {h : xa_H} {sz : Nat} {Q : Outcome → xa_H → Nat → Prop} {X tx : String} {ix : Nat} {rx : ByteArray} {names : List String} (hE : xa_E0 M.1.cls ia ic ci X ix rx names)
    (hd0 : decode M.2.1 pc = .ok (.new ia, 3)) (hd3 : decode M.2.1 (pc + 3) = .ok (.dup, 1)) (hd4 : (ln = 2 ∧ decode M.2.1 (pc + 4) = .ok (.ldc ib, 2)) ∨ (ln = 3 ∧ decode M.2.1 (pc + 4) = .ok (.ldc_w ib, 3))) (hd6 : decode M.2.1 (pc + 4 + ln) = .ok (.invokespecial ic, 3)) (hd9 : decode M.2.1 (pc + 4 + ln + 3) = .ok (.athrow, 1)) (hstr : (M.1.cls, ib, tx) ∈ xv_S)
    (hdp : 8 ≤ dp) (hst : (st.map fun v => v.category).sum ≤ 8) (hout : xa_out M (pc + 4 + ln + 3)) (hq : Q (.threw sz) (xa_up h sz (.inr (ci, []))) (sz + 1)) : xa_W G M dp (kc + 1) (ks + 6) pc L st h sz Q := by
  obtain ⟨⟨F, hc⟩, hfit, hfits, hlen, hcl, hins, hini, hxd, hat⟩ := hE
  intro p e R s m args below meth c H locs cells slots ls kT nT C h1 h2 h3 h4 hl hP hz hS T hT X0
  obtain ⟨hx, hb, hmL, hown, hts, hret, hlk, hnm, htb, hK, hf, hlo, hBs, hpr⟩ := C
  have X' := xa_rebase X0 (by omega) (by omega)
  generalize hs' : T.setFrames (.invoking m args :: below) = s' at X'
  have hvm' : s'.vm = T.vm := by rw [← hs']; rfl
  have hhp' : s'.heap = H := by rw [← hs', ← hT]; rfl
  have hWs : s.WarmedH s'.vm := by rw [hvm']; exact X0.warmed
  have hts' := xa_words hts args (U := s') hWs
  have hpr' : xa_pr G s' := hpr.to hWs (fun a ha hna => by rw [hhp']; exact hS.2.1 a ha hna)
  have hK' : xa_K G.2.1 s' := hK.moved hWs.alike
  have hown' : s'.vm.findClass M.1.cls = some m.cls := by rw [hWs.alike.findClass]; exact hown
  obtain ⟨q, hq0⟩ := hpr'.2.1 _ hstr
  have hcls := (hK'.1 ci _ hc).2
  have z5 := hpr'.2.2.2.2.1
  have z6 := hpr'.2.2.2.2.2.1
  have hwords : ∀ w ∈ Bundle.ownAtomsX M.1.cls ic X ix rx names, w.before args s' = true := by
    intro w hw
    rcases hat w hw with g | g | g | g | g | g
    · exact hts' w g
    · exact va_Nw.use g.2 (hpr'.2.2.2.1 _ g.1)
    · rw [g]; exact z5.isRef args
    · rw [g]; exact z6.isRef args
    · rw [g]; exact z5.lays args
    · rw [g]; exact z6.lays args
  have htr : e.platform.stackTraces = false := Launch.traces_off hpr.1 X0.admits
  have key : W p G.1 e { R with cells := R.cells - cells, slots := R.slots - slots } s' m args below meth c H [] 0 0 (fun U => U.status = .running ∧ Ended U below (.threw sz) ∧ s'.WarmedH U.vm ∧ s'.sameButNew ({ U with vm := s'.vm } : State) [] 1 6 ∧ ∃ ce : Cell, U.heap[sz]? = some ce ∧ ce.cls = G.2.1.1.1 ci ∧ ce.vm = .none) (F0 m pc ls st) := by
    refine W.newcK (n := 6) hx hb hown' (hts' _ hcl) (hts' _ hins) (hts' _ hini) rfl hd0 (by show 0 + 1 ≤ R.cells - cells; omega) (by show 0 + 6 ≤ R.slots - slots; omega) hcls.1 hz fun H1 kC hkC e1 z1 o1 => ?_
    refine W.eq (g2 := F0 m (pc + 3) ls (.ref sz :: st)) rfl ?_
    refine lv_dup hx hb hd3 rfl ?_
    have fin : W p G.1 e { R with cells := R.cells - cells, slots := R.slots - slots } s' m args below meth c H1 [] (0 + 1) (0 + 6) (fun U => U.status = .running ∧ Ended U below (.threw sz) ∧ s'.WarmedH U.vm ∧ s'.sameButNew ({ U with vm := s'.vm } : State) [] 1 6 ∧ ∃ ce : Cell, U.heap[sz]? = some ce ∧ ce.cls = G.2.1.1.1 ci ∧ ce.vm = .none) (F0 m (pc + 3 + 1 + ln) ls (.ref q :: .ref sz :: .ref sz :: st)) := by
      intro T1 hT1 X1
      obtain ⟨U, g1, g2, g3, g4, g5, ce, g6, g7, g8⟩ := xz_ctor X1 hx htr hxd hown' hfit hfits hwords (fun y hy => by cases hy) hcls.1 hkC (a := sz) (by rw [hT1]; exact e1) (by rw [hhp', hz]; exact Nat.le_refl _) (msg := .ref q) rfl (g := F0 m (pc + 3 + 1 + ln) ls (.ref q :: .ref sz :: .ref sz :: st)) rfl (hl.1.trans hmL.symm) rfl rfl rfl (by rw [hb]; exact hd6) (by rw [hb]; exact hd9) (hout.spec htb) (by show names.length + 3 < R.frames; omega) (by
        show 2 * 0 + ((Value.ref sz :: st).map fun v => v.category).sum + (13 * (names.length + 1) + 42) ≤ R.locals
        have : ((Value.ref sz :: st).map fun v => v.category).sum = 1 + (st.map fun v => v.category).sum := by simp [Value.category]
        omega) hlk
      exact ⟨U, g1, g2, g3, g4, g5, ce, g6, g7, g8⟩
    rcases hd4 with ⟨rfl, hd4⟩ | ⟨rfl, hd4⟩
    · exact va_ldcS hx hb hown' hq0 hd4 fin
    · exact xz_ldcw hx hb hown' hq0 hd4 fin
  obtain ⟨U, st1, u1, u2, u3, u4, ce, u5, u6, u7⟩ := key T hT X'
  have hold : ∀ a, a < sz → U.heap[a]? = H[a]? := by
    intro a ha
    obtain ⟨-, -, -, -, -, w6⟩ := u4
    obtain ⟨cl, hcl'⟩ : ∃ cl, H[a]? = some cl := ⟨H[a]'(by omega), by simp [show a < H.size by omega]⟩
    obtain ⟨c', w1, w2, w3, w4⟩ := w6 a cl (by rw [hhp']; exact hcl')
    have w5 : c'.slots = cl.slots := by
      apply Array.ext_getElem?
      intro i
      exact w4 i (by simp)
    rw [hcl']
    show U.heap[a]? = some cl
    have w7 : U.heap[a]? = some c' := w1
    rw [w7, w2, w5]
  have hsz : U.heap.size = sz + 1 := by
    have w1 : U.heap.size ≤ s'.heap.size + 1 := u4.2.2.1
    have w2 := (Array.getElem?_eq_some_iff.mp u5).1
    rw [hhp'] at w1
    omega
  refine ⟨U, st1, .threw sz, u1, u2, ⟨⟨xa_up h sz (.inr (ci, [])), by rw [hsz]; exact hq, ?_⟩, ?_⟩, locs ++ [], ?_, ?_, ?_⟩
  · have hP0 : xa_P G h H := hP
    subst hz
    exact hP0.new (e := .inr (ci, [])) ⟨_, hc, ce, u5, u6, u7, fun k hk => absurd hk (Nat.not_lt_zero k)⟩ hold hsz
  · refine ⟨by have := hS.1; omega, fun a ha hna => ?_⟩
    have hle := hS.1
    rw [hold a (by omega)]
    exact hS.2.1 a ha hna
  · exact State.WarmedH.trans (X0.warmed) (by rw [← hs'] at u3; exact u3)
  · subst hs'
    exact (xa_rejoin X0.same u4).mono (by omega) (by omega)
  · intro y hy
    rw [List.append_nil] at hy
    exact hS.2.2 y hy
theorem xw_throw {G : xa_G} {M : xa_M} {dp kc ks pc ia ib ic ci : Nat} {L : List (Option Value)} {st : List Value} {h : xa_H} {sz : Nat} {Q : Outcome → xa_H → Nat → Prop} {X tx : String} {ix : Nat} {rx : ByteArray} {names : List String} (hE : xa_E0 M.1.cls ia ic ci X ix rx names)
    (hd0 : decode M.2.1 pc = .ok (.new ia, 3)) (hd3 : decode M.2.1 (pc + 3) = .ok (.dup, 1)) (hd4 : decode M.2.1 (pc + 4) = .ok (.ldc ib, 2)) (hd6 : decode M.2.1 (pc + 6) = .ok (.invokespecial ic, 3)) (hd9 : decode M.2.1 (pc + 9) = .ok (.athrow, 1)) (hstr : (M.1.cls, ib, tx) ∈ xv_S)
    (hdp : 8 ≤ dp) (hst : (st.map fun v => v.category).sum ≤ 8) (hout : xa_out M (pc + 9)) (hq : Q (.threw sz) (xa_up h sz (.inr (ci, []))) (sz + 1)) : xa_W G M dp (kc + 1) (ks + 6) pc L st h sz Q :=
  xw_throwG (ln := 2) hE hd0 hd3 (Or.inl ⟨rfl, hd4⟩) hd6 hd9 hstr hdp hst hout hq
theorem xw_throwW {G : xa_G} {M : xa_M} {dp kc ks pc ia ib ic ci : Nat} {L : List (Option Value)} {st : List Value} {h : xa_H} {sz : Nat} {Q : Outcome → xa_H → Nat → Prop} {X tx : String} {ix : Nat} {rx : ByteArray} {names : List String} (hE : xa_E0 M.1.cls ia ic ci X ix rx names)
    (hd0 : decode M.2.1 pc = .ok (.new ia, 3)) (hd3 : decode M.2.1 (pc + 3) = .ok (.dup, 1)) (hd4 : decode M.2.1 (pc + 4) = .ok (.ldc_w ib, 3)) (hd6 : decode M.2.1 (pc + 7) = .ok (.invokespecial ic, 3)) (hd9 : decode M.2.1 (pc + 10) = .ok (.athrow, 1)) (hstr : (M.1.cls, ib, tx) ∈ xv_S)
    (hdp : 8 ≤ dp) (hst : (st.map fun v => v.category).sum ≤ 8) (hout : xa_out M (pc + 10)) (hq : Q (.threw sz) (xa_up h sz (.inr (ci, []))) (sz + 1)) : xa_W G M dp (kc + 1) (ks + 6) pc L st h sz Q :=
  xw_throwG (ln := 3) hE hd0 hd3 (Or.inr ⟨rfl, hd4⟩) hd6 hd9 hstr hdp hst hout hq
end
section
/-! a throw that is caught: the rows of the table are asked in their order; a class that a row names may be linked just then -/
def xa_asks (pl : Platform) (s₀ : State) (d : ClassId) (pc : Nat) (thrown : ClassId) (y : ExceptionTableEntry) (yes : Bool) : Prop := covers y pc = true ∧ y.catchType ≠ 0 ∧ ∃ c, s₀.vm.ClassLinks pl d y.catchType c ∧ s₀.vm.assignable thrown c = yes
theorem xa_ask1 {e : Env} {f : JFrame} {a : Addr} {s₀ S : State} {cell : Cell} {y : ExceptionTableEntry} {yes : Bool} (hW : s₀.WarmedH S.vm) (hcell : S.heap[a]? = some cell) (hobj : ∀ k, cell.vm ≠ .statics k) (hk0 : ∃ k, s₀.vm.classes[cell.cls]? = some k) (hy : xa_asks e.platform s₀ f.method.cls f.pc cell.cls y yes) :
    ∃ vm', s₀.WarmedH vm' ∧ ∀ (t : List ExceptionTableEntry) (Q : Handler → Pre) (E : CtlPost) (d : Bool) (acts : List Action), wp (findHandler.go f a (y :: t)) Q E e d acts S ↔ (if yes = true then Q (.found y.handlerPc) d acts (S.setVm vm') else wp (findHandler.go f a t) Q E e d acts (S.setVm vm')) := by
  obtain ⟨hcov, h0, c, hl, hfit⟩ := hy
  obtain ⟨k0, hk0⟩ := hk0
  obtain ⟨dk, _, _, kt, hd, _, _, _, _, hkt, _, hopen⟩ := hl.here
  have hl' := hW.classLinks hl
  have hW' : s₀.WarmedH (S.vm.noted f.method.cls y.catchType (.cls c)) := hW.noted hd hopen (State.rightAt_cls hl)
  obtain ⟨q1, q2⟩ := (resolveClass_links e.toSetting hl').op (op := VmOp.resolveClass f.method.cls y.catchType) rfl
  obtain ⟨k1, hk1, -⟩ := hW'.alike.2.2 _ _ hk0
  obtain ⟨k2, hk2, -⟩ := hW'.alike.2.2 _ _ hkt
  have hfit' : (S.vm.noted f.method.cls y.catchType (.cls c)).assignable cell.cls c = yes := by rw [hW'.alike.assignable]; exact hfit
  refine ⟨_, hW', fun t Q E d acts => ?_⟩
  simp only [covers] at hcov
  cases yes with
  | true => simp [findHandler.go, hcov, h0, q1, q2, hcell, hobj, hk1, hk2, hfit', VmOp.dirties, VmOp.acts]
  | false => simp [findHandler.go, hcov, h0, q1, q2, hcell, hobj, hk1, hk2, hfit', VmOp.dirties, VmOp.acts]
theorem xa_asked {e : Env} {f : JFrame} {a : Addr} {s₀ : State} {cell : Cell} (hobj : ∀ k, cell.vm ≠ .statics k) (hk0 : ∃ k, s₀.vm.classes[cell.cls]? = some k) (x : ExceptionTableEntry) (hx : xa_asks e.platform s₀ f.method.cls f.pc cell.cls x true) (t : List ExceptionTableEntry) :
    ∀ (pre : List ExceptionTableEntry) (S : State), s₀.WarmedH S.vm → S.heap[a]? = some cell → (∀ y ∈ pre, covers y f.pc = false ∨ xa_asks e.platform s₀ f.method.cls f.pc cell.cls y false) →
      ∃ vm', s₀.WarmedH vm' ∧ ∀ (Q : Handler → Pre) (E : CtlPost) (d : Bool) (acts : List Action), wp (findHandler.go f a (pre ++ x :: t)) Q E e d acts S ↔ Q (.found x.handlerPc) d acts (S.setVm vm') := by
  intro pre
  induction pre with
  | nil =>
    intro S hW hcell _
    obtain ⟨vm', hW', hq⟩ := xa_ask1 hW hcell hobj hk0 hx
    exact ⟨vm', hW', fun Q E d acts => by simpa using hq t Q E d acts⟩
  | cons y ys ih =>
    intro S hW hcell hpass
    have hrest : ∀ z ∈ ys, covers z f.pc = false ∨ xa_asks e.platform s₀ f.method.cls f.pc cell.cls z false := fun z hz => hpass z (List.mem_cons_of_mem _ hz)
    rcases hpass y List.mem_cons_self with hno | hy
    · obtain ⟨vm', hW', hq⟩ := ih S hW hcell hrest
      exact ⟨vm', hW', fun Q E d acts => by
        rw [List.cons_append, W.findHandler_go_skip hno]
        exact hq Q E d acts⟩
    · obtain ⟨vm1, hW1, hq1⟩ := xa_ask1 hW hcell hobj hk0 hy
      obtain ⟨vm', hW', hq⟩ := ih (S.setVm vm1) hW1 hcell hrest
      exact ⟨vm', hW', fun Q E d acts => by
        rw [List.cons_append, hq1]
        have h9 := hq Q E d acts
        rw [show (S.setVm vm1).setVm vm' = S.setVm vm' from rfl] at h9
        simpa using h9⟩
theorem xa_caught {p : Program} {l : Launch} {e : Env} {R : Room} {s : State} {m : MethodId} {args : Array Value} {below : List Frame} {meth : Method} {c : Code} {T : State} {locs : List Loc} {cells slots : Nat} (X : Stand p l e R s m args below meth c T locs cells slots) {a : Addr} {g : JFrame} (hg : g.method = m) {cell : Cell} (hcell : T.heap[a]? = some cell) (hobj : ∀ k, cell.vm ≠ .statics k) (hk0 : ∃ k, s.vm.classes[cell.cls]? = some k)
    (pre : List ExceptionTableEntry) (x : ExceptionTableEntry) (t : List ExceptionTableEntry) (hsplit : c.exceptionTable.toList = pre ++ x :: t) (hpass : ∀ y ∈ pre, covers y g.pc = false ∨ xa_asks e.platform s m.cls g.pc cell.cls y false) (hx : xa_asks e.platform s m.cls g.pc cell.cls x true) :
    ∃ vm', Stand p l e R s m args below meth c (T.setVm vm') locs cells slots ∧ ∀ target, Steps p.tables e below ((T.setVm vm').setTop { g with pc := x.handlerPc, stack := [.ref a] }) target → Steps p.tables e below ((T.setTop g).pushFrame (.throwing a)) target := by
  subst hg
  obtain ⟨vm', hW', hq⟩ := xa_asked (e := e) (f := g) (a := a) hobj hk0 x hx t pre ((T.setTop g).pushFrame (.throwing a)) (by rw [Stand.throwing_vm]; exact X.warmed) (by rw [Stand.throwing_heap]; exact hcell) hpass
  refine ⟨vm', X.noted hW', fun target hrest => ?_⟩
  have hA := X.here
  obtain ⟨hgo, hw⟩ := hA.throwing a
  refine Steps.head hgo hw ?_
  have hm : ((T.setTop g).pushFrame (.throwing a)).vm.method? g.method = some meth := by rw [Stand.throwing_vm]; exact X.method'
  have hfind : ∀ (Q : Handler → Pre) (E : CtlPost) (d : Bool) (acts : List Action), wp (findHandler g a) Q E e d acts ((T.setTop g).pushFrame (.throwing a)) ↔ Q (.found x.handlerPc) d acts (((T.setTop g).pushFrame (.throwing a)).setVm vm') := by
    intro Q E d acts
    rw [W.findHandler_eq hm X.code, hsplit]
    exact hq Q E d acts
  have hstep : (stepThrowing e ((T.setTop g).pushFrame (.throwing a)) a (.java g :: T.frames.tail)).1 = (((T.setTop g).pushFrame (.throwing a)).setVm vm').setFrames (.java { g with pc := x.handlerPc, stack := [.ref a] } :: T.frames.tail) := by
    simp only [stepThrowing, searchFrame, vmDo]
    generalize hr : Sem.go _ e false [] _ = res
    obtain ⟨as, rfl, ha⟩ := Sem.eq_ok_of hr (a := Handler.found x.handlerPc) (s' := ((T.setTop g).pushFrame (.throwing a)).setVm vm') (acts' := []) (by simp [hfind _ _ _ _])
    rfl
  rw [stepThread_throwing (frames_entered hA.top _), hstep]
  obtain ⟨g₀, hg0⟩ := Option.isSome_iff_exists.mp hA.top
  obtain ⟨r, hr⟩ := State.topJava?_eq_some.mp hg0
  have hr' : (T.setVm vm').frames = .java g₀ :: r := hr
  rw [State.setTop_of_frames _ hr'] at hrest
  have e1 : (((T.setTop g).pushFrame (.throwing a)).setVm vm').setFrames (.java { g with pc := x.handlerPc, stack := [.ref a] } :: T.frames.tail) = (T.setVm vm').setFrames (.java { g with pc := x.handlerPc, stack := [.ref a] } :: r) := by
    rw [hr, List.tail_cons, State.pushFrame, State.setTop_of_frames _ hr]
    show ((((T.setFrames _).setFrames _).setVm vm').setFrames _) = _
    rw [State.setFrames_setFrames]
    show (((T.setVm vm').setFrames _).setFrames _) = _
    rw [State.setFrames_setFrames]
  rw [e1]
  exact hrest
/-- how a row of the table takes or passes an exception of class number ci: by the words -/
def xa_row (own : String) (pc : Nat) (X : String) (q : Nat × Nat × Nat × Nat) (yes : Bool) : Prop := q.1 ≤ pc ∧ pc < q.2.1 ∧ q.2.2.2 ≠ 0 ∧ ∃ E, Cond.classLink own q.2.2.2 E ∈ xv_T ∧ (if yes = true then Cond.castable X E ∈ xv_U else Cond.not (Cond.castable X E) ∈ xv_U)
theorem xa_row.asks {own X : String} {pc ci : Nat} {q : Nat × Nat × Nat × Nat} {yes : Bool} (h : xa_row own pc X q yes) {G : xa_G} {e : Env} {s : State} {args : Array Value} {d : ClassId} (hpl : e.platform.magicAccessors = ({} : Platform).magicAccessors) (hown : s.vm.findClass own = some d) (hts : ∀ w ∈ xv_T, w.before args s = true) (hU : ∀ w ∈ xv_U, w.before #[] s = true) {F : u_T} {N : Nat} (hc : xv_c[ci]? = some (X, F, N)) (hK : xa_K G.2.1 s) {y : ExceptionTableEntry} (hy : (y.startPc, y.endPc, y.handlerPc, y.catchType) = q) : xa_asks e.platform s d pc (G.2.1.1.1 ci) y yes := by
  subst hy
  obtain ⟨h1, h2, h3, E, hlink, hcast⟩ := h
  obtain ⟨cE, hcE, hcl⟩ := Cond.classLink_spec hown (hts _ hlink) e.platform hpl
  have hX := (hK.1 ci _ hc).2.1
  refine ⟨by simp [covers, h1, h2], h3, cE, hcl, ?_⟩
  cases yes with
  | true =>
    rw [if_pos rfl] at hcast
    obtain ⟨c0, t0, f1, f2, f3⟩ := Cond.castable_spec (hU _ hcast)
    cases hX.symm.trans f1
    cases hcE.symm.trans f2
    exact f3
  | false =>
    rw [if_neg (by decide)] at hcast
    have hv := Cond.holds_not_iff.mp (hU _ hcast)
    simp only [Cond.value, hX, hcE] at hv
    exact Option.some.inj hv
/-- the exception is caught: by the row q, behind the rows pre that pass it -/
theorem xx_catch {G : xa_G} {M : xa_M} {dp kc ks pc ci x : Nat} {L : List (Option Value)} {st : List Value} {h : xa_H} {sz : Nat} {Q : Outcome → xa_H → Nat → Prop} {X : String} {F : u_T} {N : Nat} {fs : List Value} (pre : List (Nat × Nat × Nat × Nat)) (q : Nat × Nat × Nat × Nat) (post : List (Nat × Nat × Nat × Nat)) (hc : xv_c[ci]? = some (X, F, N)) (hx : h x = some (.inr (ci, fs))) (hsplit : M.2.2.2.2 = pre ++ q :: post) (hpre : ∀ y ∈ pre, xa_row M.1.cls pc X y false) (hqr : xa_row M.1.cls pc X q true)
    (k : xa_W G M dp kc ks q.2.2.1 L [.ref x] h sz Q) : xa_X G M dp kc ks pc L st x h sz Q := by
  intro p e R s m args below meth c H locs cells slots ls kT nT C h1 h2 h3 h4 hl hP hz hS T hT X0
  have C' := C
  obtain ⟨hx0, hb, hmL, hown, hts, hret, hlk, hnm, htb, hK, hf, hlo, hBs, hpr⟩ := C'
  have hpl : e.platform.magicAccessors = ({} : Platform).magicAccessors := by rw [X0.admits.platform]
  obtain ⟨r, hr, cell, g1, g2, g3, -⟩ := hP.1 x _ hx
  have hkc : ∃ kx, s.vm.classes[cell.cls]? = some kx := by
    obtain ⟨-, kC, hkC, -⟩ := (hK.1 ci _ hc).2
    exact ⟨kC, by rw [g2]; exact hkC⟩
  have htb' : c.exceptionTable.toList.map (fun h => (h.startPc, h.endPc, h.handlerPc, h.catchType)) = pre ++ q :: post := by
    have := htb
    unfold xa_tb at this
    rw [this, hsplit]
  obtain ⟨l1, l2, e1, e2, e3⟩ := List.map_eq_append_iff.mp htb'
  obtain ⟨y, l3, e4, e5, e6⟩ := List.map_eq_cons_iff.mp e3
  obtain ⟨vm', X1, step⟩ := xa_caught X0 (a := x) (g := F0 m pc ls st) rfl (by rw [hT]; exact g1) (fun kk hk => by rw [g3] at hk; cases hk) hkc l1 y l3 (by rw [e1, e4]) (fun z hz' => Or.inr (by
    rw [g2]
    exact (hpre _ (by rw [← e2]; exact List.mem_map.mpr ⟨z, hz', rfl⟩)).asks hpl hown hts hpr.2.2.2.1 hc hK rfl)) (by
    rw [g2]
    exact hqr.asks hpl hown hts hpr.2.2.2.1 hc hK e5)
  have hy3 : y.handlerPc = q.2.2.1 := by rw [← e5]
  obtain ⟨t, a1, b1⟩ := k p e R s m args below meth c H locs cells slots ls kT nT C h1 h2 h3 h4 hl hP hz hS (T.setVm vm') hT X1
  refine ⟨t, step t ?_, b1⟩
  rw [hy3]
  exact a1
end
section
/-! statics, constants, class objects, arraycopy -/
section XM
variable {G : xa_G} {M : xa_M} {dp kc ks pc : Nat} {L : List (Option Value)} {st : List Value} {h : xa_H} {sz : Nat} {Q : Outcome → xa_H → Nat → Prop}
theorem xw_ishr {x y : Int32} (hd : decode M.2.1 pc = .ok (.ishr, 1)) (k : xa_W G M dp kc ks (pc + 1) L (.int (x >>> (y &&& 31)) :: st) h sz Q) : xa_W G M dp kc ks pc L (.int y :: .int x :: st) h sz Q :=
  xw_go (fun _ _ _ _ _ _ _ _ _ _ _ _ _ _ _ hx hb _ => lv_ishr hx hb hd) k
theorem xw_ldcI {index : Nat} {v : Int32} (hw : Cond.constant M.1.cls index v ∈ xv_T) (hd : decode M.2.1 pc = .ok (.ldc index, 2)) (kk : xa_W G M dp kc ks (pc + 2) L (.int v :: st) h sz Q) : xa_W G M dp kc ks pc L st h sz Q := by
  intro p e R s m args below meth c H locs cells slots ls kT nT C h1 h2 h3 h4 hl hP hz hS
  exact lv_ldc C.1 C.2.1 C.2.2.2.1 (C.2.2.2.2.1 _ hw) hd (kk p e R s m args below meth c H locs cells slots ls kT nT C h1 h2 h3 h4 hl hP hz hS)
theorem xw_empty {index : Nat} (hw : Cond.fieldLink M.1.cls index "java/util/ArrayList" "DEFAULTCAPACITY_EMPTY_ELEMENTDATA" "[Ljava/lang/Object;" ∈ xv_T) (hd : decode M.2.1 pc = .ok (.getstatic index, 3)) (kk : xa_W G M dp kc ks (pc + 3) L (.ref G.2.2.2.1 :: st) h sz Q) : xa_W G M dp kc ks pc L st h sz Q := by
  intro p e R s m args below meth c H locs cells slots ls kT nT C h1 h2 h3 h4 hl hP hz hS
  have hpr := C.2.2.2.2.2.2.2.2.2.2.2.2.2
  exact va_gets C.1 C.2.1 hpr.2.2.1 hS C.2.2.2.1 (C.2.2.2.2.1 _ hw) (fun _ q => q) hd (kk p e R s m args below meth c H locs cells slots ls kT nT C h1 h2 h3 h4 hl hP hz hS)
theorem xw_mirror {index : Nat} (hw : Cond.classLink M.1.cls index "[Ljava/lang/Object;" ∈ xv_T) (hd : decode M.2.1 pc = .ok (.ldc index, 2)) (kk : xa_W G M dp kc ks (pc + 2) L (.ref G.2.2.2.2 :: st) h sz Q) : xa_W G M dp kc ks pc L st h sz Q := by
  intro p e R s m args below meth c H locs cells slots ls kT nT C h1 h2 h3 h4 hl hP hz hS
  have hpr := C.2.2.2.2.2.2.2.2.2.2.2.2.2
  exact va_ldcM C.1 C.2.1 C.2.2.2.1 (C.2.2.2.2.1 _ hw) hpr.2.2.2.2.2.2.2 hd (kk p e R s m args below meth c H locs cells slots ls kT nT C h1 h2 h3 h4 hl hP hz hS)
theorem xw_getC {index a : Nat} {x : vp_A} (hw : Cond.methodLink M.1.cls index ⟨"java/lang/Object", "getClass", "()Ljava/lang/Class;"⟩ ∈ xv_T) (hsel : Cond.selects "[Ljava/lang/Object;" ⟨"java/lang/Object", "getClass", "()Ljava/lang/Class;"⟩ ⟨"java/lang/Object", "getClass", "()Ljava/lang/Class;"⟩ ∈ xv_T) (hinst : Cond.instanceMethod ⟨"java/lang/Object", "getClass", "()Ljava/lang/Class;"⟩ ∈ xv_T) (hnat : Cond.native ⟨"java/lang/Object", "getClass", "()Ljava/lang/Class;"⟩ ∈ xv_T) (hd : decode M.2.1 pc = .ok (.invokevirtual index, 3)) (ha : h a = some (.inl (3, x))) (hdp : 1 ≤ dp) (hst : (st.map fun v => v.category).sum ≤ 8)
    (kk : xa_W G M dp kc ks (pc + 3) L (.ref G.2.2.2.2 :: st) h sz Q) : xa_W G M dp kc ks pc L (.ref a :: st) h sz Q := by
  intro p e R s m args below meth c H locs cells slots ls kT nT C h1 h2 h3 h4 hl hP hz hS
  have hpr := C.2.2.2.2.2.2.2.2.2.2.2.2.2
  have hK := C.2.2.2.2.2.2.2.2.2.1
  have hts := C.2.2.2.2.1
  have hf := C.2.2.2.2.2.2.2.2.2.2.1
  have hlo := C.2.2.2.2.2.2.2.2.2.2.2.1
  have hname := va_nmO (s := s) (C := "java/lang/Object") (nm := "[Ljava/lang/Object;") (hK.2 3 _ rfl).2 (by decide)
  refine va_getC C.1 C.2.1 (C.2.2.1.trans hl.1.symm) C.2.2.2.1 (hts _ hw) (va_Dc.use hpr.2.2.2.2.2.2.1) (hts _ hsel) (hts _ hinst) (hts _ hnat) hpr.2.2.2.2.2.2.2 ?_ (by omega) (by omega) hd (kk p e R s m args below meth c H locs cells slots ls kT nT C h1 h2 h3 h4 hl hP hz hS)
  have hcell := hP.1 a _ ha
  obtain ⟨cell, g1, g2⟩ := hcell.cell
  refine ⟨cell, g1, by rw [g2]; rfl, ?_⟩
  rw [hname]
  have g3 : H[a]? = some (vp_cell (G.2.1.2 3) x) := hcell
  cases g1.symm.trans g3
  obtain ⟨n, f | f | f | f | f⟩ := x <;> rfl
theorem xa_nn {z : Int32} (hz : ¬ z < 0) : z.toInt = (z.toNatClampNeg : Int) := by
  have hz0 : (0 : Int) ≤ z.toInt := by
    have := Int32.not_lt.mp hz
    simpa using Int32.le_iff_toInt_le.mp this
  show z.toInt = ((z.toInt.toNat : Nat) : Int)
  omega
theorem xw_copy {index a0 a n0 n1 : Nat} {f g : Nat → Option Nat} {sp tp n : Int32} (hw : Cond.methodLink M.1.cls index arraycopyName ∈ xv_T) (hnat : Cond.native arraycopyName ∈ xv_T) (hstat : Cond.static arraycopyName ∈ xv_T) (hini : Cond.initialized "java/lang/System" ∈ xv_T) (hd : decode M.2.1 pc = .ok (.invokestatic index, 3)) (ha0 : h a0 = some (.inl (3, (n0, .inr (.inr (.inr (.inr f))))))) (ha1 : h a = some (.inl (3, (n1, .inr (.inr (.inr (.inr g))))))) (h1 : ¬ sp < 0) (h2 : ¬ tp < 0) (h3 : ¬ n < 0) (h4 : sp.toNatClampNeg + n.toNatClampNeg ≤ n0) (h5 : tp.toNatClampNeg + n.toNatClampNeg ≤ n1)
    (hel : ∀ i : Nat, i < n.toNatClampNeg → ∀ y : Nat, f (sp.toNatClampNeg + i) = some y → ∃ ci fs, h y = some (.inr (ci, fs)) ∧ xa_A ci "java/lang/Object") (hB : G.2.2.1 ≤ a) (hdp : 1 ≤ dp) (hst : (st.map fun v => v.category).sum ≤ 8)
    (kk : xa_W G M dp kc ks (pc + 3) L st (xa_up h a (.inl (3, (n1, .inr (.inr (.inr (.inr (va_cpy f g sp.toNatClampNeg tp.toNatClampNeg n.toNatClampNeg)))))))) sz Q) : xa_W G M dp kc ks pc L (.int n :: .int tp :: .ref a :: .int sp :: .ref a0 :: st) h sz Q := by
  intro p e R s m args below meth c H locs cells slots ls kT nT C q1 q2 q3 q4 hl hP hz hS T hT X
  have hpr := C.2.2.2.2.2.2.2.2.2.2.2.2.2
  have hK := C.2.2.2.2.2.2.2.2.2.1
  have hts := C.2.2.2.2.1
  have hf := C.2.2.2.2.2.2.2.2.2.2.1
  have hlo := C.2.2.2.2.2.2.2.2.2.2.2.1
  have hc0 : H[a0]? = some (vp_cell (G.2.1.2 3) (n0, .inr (.inr (.inr (.inr f))))) := hP.1 a0 _ ha0
  have hc1 : H[a]? = some (vp_cell (G.2.1.2 3) (n1, .inr (.inr (.inr (.inr g))))) := hP.1 a _ ha1
  obtain ⟨-, k0, hk0, cm0, hkk0⟩ := (hK.2 3 _ rfl).1 n0 (fun j => va_rf (f j))
  obtain ⟨-, k1, hk1, cm1, hkk1⟩ := (hK.2 3 _ rfl).1 n1 (fun j => va_rf (g j))
  obtain ⟨vm', X', step⟩ := X.arraycopy C.1 C.2.2.2.1 (hts _ hw) (hts _ hnat) (hts _ hstat) (hts _ hini) (src := a0) (dst := a) (cs := vp_cell (G.2.1.2 3) (n0, .inr (.inr (.inr (.inr f))))) (cd := vp_cell (G.2.1.2 3) (n1, .inr (.inr (.inr (.inr g))))) (srcPos := sp) (destPos := tp) (n := n) (by rw [hT]; exact hc0) (by rw [hT]; exact hc1)
    (fun _ h => by cases h) (fun _ h => by cases h) (fun h => by cases h) (fun h => by cases h) hk0 hk1 hkk0 hkk1 rfl h1 h2 h3
    (by rw [xa_nn h1, xa_nn h3]; show ¬ _ > ((arrV _ n0 (fun j => va_rf (f j))).slots.size : Int); rw [arrV_size]; omega)
    (by rw [xa_nn h2, xa_nn h3]; show ¬ _ > ((arrV _ n1 (fun j => va_rf (g j))).slots.size : Int); rw [arrV_size]; omega)
    (fun vm₁ hal i hi => by
      have e : (vp_cell (G.2.1.2 3) (n0, .inr (.inr (.inr (.inr f))))).slots.getD (sp.toNatClampNeg + i) .null = va_rf (f (sp.toNatClampNeg + i)) := by
        show (arrV (G.2.1.2 3) n0 (fun j => va_rf (f j))).slots.getD _ _ = _
        rw [Array.getD_eq_getD_getElem?, arrV_read _ _ (by omega)]
        rfl
      rw [e]
      cases hy : f (sp.toNatClampNeg + i) with
      | none => exact ⟨rfl, trivial⟩
      | some y =>
        obtain ⟨ci, fs, hyh, hA⟩ := hel i hi y hy
        obtain ⟨r', hr', cellV, g1, g2, g3, -⟩ := hP.1 y _ hyh
        obtain ⟨kA, comp, r1, r2, r3, -⟩ := (hK.2 3 _ rfl).2
        cases hk1.symm.trans r1
        cases hkk1.symm.trans r2
        obtain ⟨kE, hkE, -⟩ := Vm.findClass_spec r3
        obtain ⟨hasg, kC, hkC⟩ := xa_asg hK hpr.2.2.2.1 hA r3
        obtain ⟨kC', hkC', -⟩ := hal.2.2 _ _ hkC
        obtain ⟨kE', hkE', -⟩ := hal.2.2 _ _ hkE
        refine ⟨rfl, cellV, (show T.heap[y]? = some cellV by rw [hT]; exact g1), (fun q h => by rw [g3] at h; cases h), ⟨kC', by rw [g2]; exact hkC'⟩, ?_, ?_⟩
        · exact ⟨kE', hkE'⟩
        · show vm₁.assignable _ _ = true
          rw [hal.assignable, g2]
          exact hasg)
    (g := F0 m pc ls (.int n :: .int tp :: .ref a :: .int sp :: .ref a0 :: st)) rfl (by show ls.size = _; rw [hl.1, C.2.2.1]) (rest := st) rfl (by rw [C.2.1]; exact hd) (by omega) (by
      show 2 * 0 + (st.map fun v => v.category).sum + _ ≤ _
      have hw9 : nativeFrameWords "java/lang/System" "arraycopy" 5 ≤ 40 := by decide
      omega)
  have e1 : copied (vp_cell (G.2.1.2 3) (n0, .inr (.inr (.inr (.inr f))))) (vp_cell (G.2.1.2 3) (n1, .inr (.inr (.inr (.inr g))))) sp tp n = vp_cell (G.2.1.2 3) (n1, .inr (.inr (.inr (.inr (va_cpy f g sp.toNatClampNeg tp.toNatClampNeg n.toNatClampNeg))))) := by
    rw [vp_cell_q, vp_cell_q, vp_cell_q]
    exact va_copied (fun z => va_rf z) _ _ f g h4
  rw [e1] at X' step
  have hla : a < H.size := (Array.getElem?_eq_some_iff.mp hc1).1
  generalize hV : (.inr (.inr (.inr (.inr (va_cpy f g sp.toNatClampNeg tp.toNatClampNeg n.toNatClampNeg)))) : (Nat → Int32) ⊕ (Nat → Int64) ⊕ (Nat → UInt32) ⊕ (Nat → UInt64) ⊕ (Nat → Option Nat)) = V at X' step kk
  have hheap : ((T.setVm vm').setCell a (vp_cell (G.2.1.2 3) (n1, V))).heap = H.setIfInBounds a (vp_cell (G.2.1.2 3) (n1, V)) := by rw [← hT]; rfl
  have oq : ∀ q : Nat, q ≠ a → (H.setIfInBounds a (vp_cell (G.2.1.2 3) (n1, V)))[q]? = H[q]? := fun q hq => by simp [Array.getElem?_setIfInBounds, Ne.symm hq]
  obtain ⟨t, a1, b1⟩ := kk p e R s m args below meth c (H.setIfInBounds a (vp_cell (G.2.1.2 3) (n1, V))) _ cells slots ls kT nT C q1 q2 q3 q4 hl (hP.put (e := .inl (3, (n1, V))) (show (H.setIfInBounds a _)[a]? = some _ by simp [Array.getElem?_setIfInBounds, hla]) oq) (by simp; exact hz) ⟨by simp; exact hS.1, fun q g1 g2 => by
      rw [oq q (fun e => g2 (by rw [e]; exact hB))]
      exact hS.2.1 q g1 g2, fun q hq => by
      rcases List.mem_append.mp hq with h | h
      · exact hS.2.2 q h
      · obtain ⟨z, -, hz⟩ := List.mem_map.mp h
        rw [← hz]
        exact hB⟩ _ hheap X'
  exact ⟨t, step t a1, b1⟩
/-! references that are known not to be null, or null -/
theorem xw_aloadR_n {i : Fin 4} {a : Nat} (hd : decode M.2.1 pc = .ok (.aload_n i, 1)) (hi : L[(i : Nat)]? = some (some (.ref a))) (k : xa_W G M dp kc ks (pc + 1) L (.ref a :: st) h sz Q) : xa_W G M dp kc ks pc L st h sz Q := xw_aload_n (r := some a) hd hi k
theorem xw_aloadR {i : Nat} {a : Nat} (hd : decode M.2.1 pc = .ok (.aload i, 2)) (hi : L[i]? = some (some (.ref a))) (k : xa_W G M dp kc ks (pc + 2) L (.ref a :: st) h sz Q) : xa_W G M dp kc ks pc L st h sz Q := xw_aload (r := some a) hd hi k
theorem xw_astoreR_n {i : Fin 4} {a : Nat} (hd : decode M.2.1 pc = .ok (.astore_n i, 1)) (hn : (i : Nat) < M.2.2.1) (k : xa_W G M dp kc ks (pc + 1) (L.set i (some (.ref a))) st h sz Q) : xa_W G M dp kc ks pc L (.ref a :: st) h sz Q := xw_astore_n (r := some a) hd hn k
theorem xw_astoreR {i : Nat} {a : Nat} (hd : decode M.2.1 pc = .ok (.astore i, 2)) (hn : i < M.2.2.1) (k : xa_W G M dp kc ks (pc + 2) (L.set i (some (.ref a))) st h sz Q) : xa_W G M dp kc ks pc L (.ref a :: st) h sz Q := xw_astore (r := some a) hd hn k
theorem xw_aretR {rt : FieldType} {a : Nat} (hd : decode M.2.1 pc = .ok (.areturn, 1)) (hr : M.2.2.2.1 = some rt) (hrt : (∃ n, rt = .object n) ∨ ∃ t, rt = .array t) (hq : Q (.returned (some (.ref a))) h sz) : xa_W G M dp kc ks pc L [.ref a] h sz Q := xw_aret (r := some a) hd hr hrt hq
theorem xw_aretN {rt : FieldType} (hd : decode M.2.1 pc = .ok (.areturn, 1)) (hr : M.2.2.2.1 = some rt) (hrt : (∃ n, rt = .object n) ∨ ∃ t, rt = .array t) (hq : Q (.returned (some .null)) h sz) : xa_W G M dp kc ks pc L [.null] h sz Q := xw_aret (r := none) hd hr hrt hq
theorem xw_ifnullR {a : Nat} {off : Int} (hd : decode M.2.1 pc = .ok (.ifnull off, 3)) (k : xa_W G M dp kc ks (pc + 3) L st h sz Q) : xa_W G M dp kc ks pc L (.ref a :: st) h sz Q := xw_go (fun _ _ _ _ _ _ _ _ _ _ _ _ _ _ _ hx hb _ => lv_ifnull hx hb hd) k
theorem xw_ifnullN {off : Int} (tgt : Nat) (hd : decode M.2.1 pc = .ok (.ifnull off, 3)) (ht : (pc : Int) + off = (tgt : Int)) (k : xa_W G M dp kc ks tgt L st h sz Q) : xa_W G M dp kc ks pc L (.null :: st) h sz Q := xw_go (fun _ _ _ _ _ _ _ _ _ _ _ _ _ _ _ hx hb _ => lv_ifnullN hx hb hd ht) k
theorem xw_ifnonnullR {a : Nat} {off : Int} (tgt : Nat) (hd : decode M.2.1 pc = .ok (.ifnonnull off, 3)) (ht : (pc : Int) + off = (tgt : Int)) (k : xa_W G M dp kc ks tgt L st h sz Q) : xa_W G M dp kc ks pc L (.ref a :: st) h sz Q := xw_go (fun _ _ _ _ _ _ _ _ _ _ _ _ _ _ _ hx hb _ => lv_ifnonnull hx hb hd ht) k
theorem xw_ifnonnullN {off : Int} (hd : decode M.2.1 pc = .ok (.ifnonnull off, 3)) (k : xa_W G M dp kc ks (pc + 3) L st h sz Q) : xa_W G M dp kc ks pc L (.null :: st) h sz Q := xw_go (fun _ _ _ _ _ _ _ _ _ _ _ _ _ _ _ hx hb _ => lv_ifnonnullN hx hb hd) k
theorem xw_castN {index : Nat} (hd : decode M.2.1 pc = .ok (.checkcast index, 3)) (k : xa_W G M dp kc ks (pc + 3) L (.null :: st) h sz Q) : xa_W G M dp kc ks pc L (.null :: st) h sz Q := xw_go (fun _ _ _ _ _ _ _ _ _ _ _ _ _ _ _ hx hb _ => lv_castN hx hb hd) k
theorem xw_max {index : Nat} {x y : Int32} (hw : Cond.methodLink M.1.cls index Lib.Math.max.name ∈ xv_T) (hs : Cond.static Lib.Math.max.name ∈ xv_T) (hi : Cond.initialized "java/lang/Math" ∈ xv_T) (hc : Cond.code Lib.Math.max.name Lib.Math.max.code 2 (some .int) ∈ xv_T) (hd : decode M.2.1 pc = .ok (.invokestatic index, 3)) (hdp : 1 ≤ dp) (hst : (st.map fun v => v.category).sum ≤ 8) (kk : xa_W G M dp kc ks (pc + 3) L (.int (if x < y then y else x) :: st) h sz Q) : xa_W G M dp kc ks pc L (.int y :: .int x :: st) h sz Q := by
  intro p e R s m args below meth c H locs cells slots ls kT nT C h1 h2 h3 h4 hl hP hz hS
  have hts := C.2.2.2.2.1
  have hf := C.2.2.2.2.2.2.2.2.2.2.1
  have hlo := C.2.2.2.2.2.2.2.2.2.2.2.1
  exact va_mmax C.1 C.2.1 (C.2.2.1.trans hl.1.symm) C.2.2.2.1 (hts _ hw) (hts _ hs) (hts _ hi) (hts _ hc) (by omega) (by omega) (by omega) (by omega) hd (kk p e R s m args below meth c H locs cells slots ls kT nT C h1 h2 h3 h4 hl hP hz hS)
theorem xw_min {index : Nat} {x y : Int32} (hw : Cond.methodLink M.1.cls index Lib.Math.min.name ∈ xv_T) (hs : Cond.static Lib.Math.min.name ∈ xv_T) (hi : Cond.initialized "java/lang/Math" ∈ xv_T) (hc : Cond.code Lib.Math.min.name Lib.Math.min.code 2 (some .int) ∈ xv_T) (hd : decode M.2.1 pc = .ok (.invokestatic index, 3)) (hdp : 1 ≤ dp) (hst : (st.map fun v => v.category).sum ≤ 8) (kk : xa_W G M dp kc ks (pc + 3) L (.int (if y < x then y else x) :: st) h sz Q) : xa_W G M dp kc ks pc L (.int y :: .int x :: st) h sz Q := by
  intro p e R s m args below meth c H locs cells slots ls kT nT C h1 h2 h3 h4 hl hP hz hS
  have hts := C.2.2.2.2.1
  have hf := C.2.2.2.2.2.2.2.2.2.2.1
  have hlo := C.2.2.2.2.2.2.2.2.2.2.2.1
  exact va_mmin C.1 C.2.1 (C.2.2.1.trans hl.1.symm) C.2.2.2.1 (hts _ hw) (hts _ hs) (hts _ hi) (hts _ hc) (by omega) (by omega) (by omega) (by omega) hd (kk p e R s m args below meth c H locs cells slots ls kT nT C h1 h2 h3 h4 hl hP hz hS)
end XM
end
section
/-! names of lists and of the JDK methods that they reach: words by their places, records, decode rows, links (by program: wip/whole/mk10.py) -/
theorem iw_3 : Cond.initialized "java/util/AbstractCollection" ∈ xv_T := xv_in (List.mem_append_right _ (List.mem_of_getElem? (i := 3) (by decide +kernel))) (by decide +kernel)
theorem iw_4 : Cond.initialized "java/util/AbstractList" ∈ xv_T := xv_in (List.mem_append_right _ (List.mem_of_getElem? (i := 4) (by decide +kernel))) (by decide +kernel)
theorem iw_5 : Cond.initialized "java/util/ArrayList" ∈ xv_T := xv_in (List.mem_append_right _ (List.mem_of_getElem? (i := 5) (by decide +kernel))) (by decide +kernel)
theorem iw_15 : Cond.initialized "java/util/Objects" ∈ xv_T := xv_in (List.mem_append_right _ (List.mem_of_getElem? (i := 15) (by decide +kernel))) (by decide +kernel)
theorem iw_16 : Cond.initialized "jdk/internal/util/Preconditions" ∈ xv_T := xv_in (List.mem_append_right _ (List.mem_of_getElem? (i := 16) (by decide +kernel))) (by decide +kernel)
theorem iw_21 : Cond.initialized "java/lang/System" ∈ xv_T := xv_in (List.mem_append_right _ (List.mem_of_getElem? (i := 21) (by decide +kernel))) (by decide +kernel)
theorem iw_23 : Cond.initialized "jdk/internal/util/ArraysSupport" ∈ xv_T := xv_in (List.mem_append_right _ (List.mem_of_getElem? (i := 23) (by decide +kernel))) (by decide +kernel)
theorem iw_24 : Cond.initialized "java/lang/Math" ∈ xv_T := xv_in (List.mem_append_right _ (List.mem_of_getElem? (i := 24) (by decide +kernel))) (by decide +kernel)
theorem iw_25 : Cond.initialized "java/util/Arrays" ∈ xv_T := xv_in (List.mem_append_right _ (List.mem_of_getElem? (i := 25) (by decide +kernel))) (by decide +kernel)
theorem iw_39 : Cond.instanceMethod ⟨"java/lang/Object", "<init>", "()V"⟩ ∈ xv_T := xv_in (List.mem_append_right _ (List.mem_of_getElem? (i := 39) (by decide +kernel))) (by decide +kernel)
theorem iw_40 : Cond.code ⟨"java/lang/Object", "<init>", "()V"⟩ object_method_1_code 1 none ∈ xv_T := xv_in (List.mem_append_right _ (List.mem_of_getElem? (i := 40) (by decide +kernel))) (by decide +kernel)
theorem iw_51 : Cond.code ⟨"java/util/ArrayList", "<init>", "()V"⟩ prog_31_method_2_code 1 none ∈ xv_T := xv_in (List.mem_append_right _ (List.mem_of_getElem? (i := 51) (by decide +kernel))) (by decide +kernel)
theorem iw_52 : Cond.methodLink "java/util/ArrayList" 1 ⟨"java/util/AbstractList", "<init>", "()V"⟩ ∈ xv_T := xv_in (List.mem_append_right _ (List.mem_of_getElem? (i := 52) (by decide +kernel))) (by decide +kernel)
theorem iw_53 : Cond.instanceMethod ⟨"java/util/AbstractList", "<init>", "()V"⟩ ∈ xv_T := xv_in (List.mem_append_right _ (List.mem_of_getElem? (i := 53) (by decide +kernel))) (by decide +kernel)
theorem iw_54 : Cond.code ⟨"java/util/AbstractList", "<init>", "()V"⟩ prog_30_method_1_code 1 none ∈ xv_T := xv_in (List.mem_append_right _ (List.mem_of_getElem? (i := 54) (by decide +kernel))) (by decide +kernel)
theorem iw_55 : Cond.methodLink "java/util/AbstractList" 1 ⟨"java/util/AbstractCollection", "<init>", "()V"⟩ ∈ xv_T := xv_in (List.mem_append_right _ (List.mem_of_getElem? (i := 55) (by decide +kernel))) (by decide +kernel)
theorem iw_56 : Cond.instanceMethod ⟨"java/util/AbstractCollection", "<init>", "()V"⟩ ∈ xv_T := xv_in (List.mem_append_right _ (List.mem_of_getElem? (i := 56) (by decide +kernel))) (by decide +kernel)
theorem iw_57 : Cond.code ⟨"java/util/AbstractCollection", "<init>", "()V"⟩ prog_29_method_1_code 1 none ∈ xv_T := xv_in (List.mem_append_right _ (List.mem_of_getElem? (i := 57) (by decide +kernel))) (by decide +kernel)
theorem iw_58 : Cond.methodLink "java/util/AbstractCollection" 1 ⟨"java/lang/Object", "<init>", "()V"⟩ ∈ xv_T := xv_in (List.mem_append_right _ (List.mem_of_getElem? (i := 58) (by decide +kernel))) (by decide +kernel)
theorem iw_59 : Cond.fieldLink "java/util/ArrayList" 39 "java/util/ArrayList" "DEFAULTCAPACITY_EMPTY_ELEMENTDATA" "[Ljava/lang/Object;" ∈ xv_T := xv_in (List.mem_append_right _ (List.mem_of_getElem? (i := 59) (by decide +kernel))) (by decide +kernel)
theorem iw_61 : Cond.fieldLink "java/util/ArrayList" 9 "java/util/ArrayList" "elementData" "[Ljava/lang/Object;" ∈ xv_T := xv_in (List.mem_append_right _ (List.mem_of_getElem? (i := 61) (by decide +kernel))) (by decide +kernel)
theorem iw_62 : Cond.fieldLink "java/util/ArrayList" 48 "java/util/ArrayList" "size" "I" ∈ xv_T := xv_in (List.mem_append_right _ (List.mem_of_getElem? (i := 62) (by decide +kernel))) (by decide +kernel)
theorem iw_63 : Cond.fieldLink "java/util/AbstractList" 7 "java/util/AbstractList" "modCount" "I" ∈ xv_T := xv_in (List.mem_append_right _ (List.mem_of_getElem? (i := 63) (by decide +kernel))) (by decide +kernel)
theorem iw_64 : Cond.fieldLink "java/util/ArrayList" 63 "java/util/ArrayList" "modCount" "I" ∈ xv_T := xv_in (List.mem_append_right _ (List.mem_of_getElem? (i := 64) (by decide +kernel))) (by decide +kernel)
theorem iw_65 : Cond.sameField "java/util/ArrayList" "java/util/AbstractList" "modCount" "I" ∈ xv_T := xv_in (List.mem_append_right _ (List.mem_of_getElem? (i := 65) (by decide +kernel))) (by decide +kernel)
theorem iw_66 : Cond.lays "java/util/ArrayList" "java/util/ArrayList" "elementData" "[Ljava/lang/Object;" ∈ xv_T := xv_in (List.mem_append_right _ (List.mem_of_getElem? (i := 66) (by decide +kernel))) (by decide +kernel)
theorem iw_68 : Cond.lays "java/util/ArrayList" "java/util/ArrayList" "size" "I" ∈ xv_T := xv_in (List.mem_append_right _ (List.mem_of_getElem? (i := 68) (by decide +kernel))) (by decide +kernel)
theorem iw_70 : Cond.lays "java/util/ArrayList" "java/util/AbstractList" "modCount" "I" ∈ xv_T := xv_in (List.mem_append_right _ (List.mem_of_getElem? (i := 70) (by decide +kernel))) (by decide +kernel)
theorem iw_75 : Cond.laysFinal "NotedVolume$FileTable" "NotedVolume$FileTable" "rows" "Ljava/util/ArrayList;" ∈ xv_T := xv_in (List.mem_append_right _ (List.mem_of_getElem? (i := 75) (by decide +kernel))) (by decide +kernel)
theorem iw_77 : Cond.laysFinal "NotedVolume$FileTable" "NotedVolume$FileTable" "most" "I" ∈ xv_T := xv_in (List.mem_append_right _ (List.mem_of_getElem? (i := 77) (by decide +kernel))) (by decide +kernel)
theorem iw_90 : Cond.laysFinal "NotedVolume$Ring" "NotedVolume$Ring" "cells" "[LNotedVolume$Note;" ∈ xv_T := xv_in (List.mem_append_right _ (List.mem_of_getElem? (i := 90) (by decide +kernel))) (by decide +kernel)
theorem iw_92 : Cond.lays "NotedVolume$Ring" "NotedVolume$Ring" "next" "I" ∈ xv_T := xv_in (List.mem_append_right _ (List.mem_of_getElem? (i := 92) (by decide +kernel))) (by decide +kernel)
theorem iw_104 : Cond.laysFinal "NotedVolume$Gatherings" "NotedVolume$Gatherings" "open" "Ljava/util/ArrayList;" ∈ xv_T := xv_in (List.mem_append_right _ (List.mem_of_getElem? (i := 104) (by decide +kernel))) (by decide +kernel)
theorem iw_127 : Cond.laysFinal "NotedVolume$Subscriber" "NotedVolume$Subscriber" "copy" "LNotedVolume$FileTable;" ∈ xv_T := xv_in (List.mem_append_right _ (List.mem_of_getElem? (i := 127) (by decide +kernel))) (by decide +kernel)
theorem iw_129 : Cond.laysFinal "NotedVolume$Subscriber" "NotedVolume$Subscriber" "pageNumbers" "[I" ∈ xv_T := xv_in (List.mem_append_right _ (List.mem_of_getElem? (i := 129) (by decide +kernel))) (by decide +kernel)
theorem iw_131 : Cond.lays "NotedVolume$Subscriber" "NotedVolume$Subscriber" "cursor" "I" ∈ xv_T := xv_in (List.mem_append_right _ (List.mem_of_getElem? (i := 131) (by decide +kernel))) (by decide +kernel)
theorem iw_133 : Cond.lays "NotedVolume$Subscriber" "NotedVolume$Subscriber" "mask" "I" ∈ xv_T := xv_in (List.mem_append_right _ (List.mem_of_getElem? (i := 133) (by decide +kernel))) (by decide +kernel)
theorem iw_135 : Cond.lays "NotedVolume$Subscriber" "NotedVolume$Subscriber" "listing" "Z" ∈ xv_T := xv_in (List.mem_append_right _ (List.mem_of_getElem? (i := 135) (by decide +kernel))) (by decide +kernel)
theorem iw_137 : Cond.lays "NotedVolume$Subscriber" "NotedVolume$Subscriber" "greatestShown" "I" ∈ xv_T := xv_in (List.mem_append_right _ (List.mem_of_getElem? (i := 137) (by decide +kernel))) (by decide +kernel)
theorem iw_148 : Cond.laysFinal "NotedVolume" "NotedVolume" "files" "LNotedVolume$FileTable;" ∈ xv_T := xv_in (List.mem_append_right _ (List.mem_of_getElem? (i := 148) (by decide +kernel))) (by decide +kernel)
theorem iw_150 : Cond.laysFinal "NotedVolume" "NotedVolume" "ring" "LNotedVolume$Ring;" ∈ xv_T := xv_in (List.mem_append_right _ (List.mem_of_getElem? (i := 150) (by decide +kernel))) (by decide +kernel)
theorem iw_152 : Cond.laysFinal "NotedVolume" "NotedVolume" "gatherings" "LNotedVolume$Gatherings;" ∈ xv_T := xv_in (List.mem_append_right _ (List.mem_of_getElem? (i := 152) (by decide +kernel))) (by decide +kernel)
theorem iw_154 : Cond.laysFinal "NotedVolume" "NotedVolume" "subscribers" "[LNotedVolume$Subscriber;" ∈ xv_T := xv_in (List.mem_append_right _ (List.mem_of_getElem? (i := 154) (by decide +kernel))) (by decide +kernel)
theorem iw_156 : Cond.lays "NotedVolume" "NotedVolume" "nextNumber" "I" ∈ xv_T := xv_in (List.mem_append_right _ (List.mem_of_getElem? (i := 156) (by decide +kernel))) (by decide +kernel)
theorem iw_158 : Cond.lays "NotedVolume" "NotedVolume" "powered" "Z" ∈ xv_T := xv_in (List.mem_append_right _ (List.mem_of_getElem? (i := 158) (by decide +kernel))) (by decide +kernel)
theorem iw_160 : Cond.lays "NotedVolume" "NotedVolume" "writesLeft" "I" ∈ xv_T := xv_in (List.mem_append_right _ (List.mem_of_getElem? (i := 160) (by decide +kernel))) (by decide +kernel)
theorem iw_173 : Cond.selects "java/util/ArrayList" ⟨"java/util/ArrayList", "size", "()I"⟩ ⟨"java/util/ArrayList", "size", "()I"⟩ ∈ xv_T := xv_in (List.mem_append_right _ (List.mem_of_getElem? (i := 173) (by decide +kernel))) (by decide +kernel)
theorem iw_174 : Cond.code ⟨"java/util/ArrayList", "size", "()I"⟩ prog_31_method_8_code 1 (some .int) ∈ xv_T := xv_in (List.mem_append_right _ (List.mem_of_getElem? (i := 174) (by decide +kernel))) (by decide +kernel)
theorem iw_186 : Cond.selects "java/util/ArrayList" ⟨"java/util/ArrayList", "get", "(I)Ljava/lang/Object;"⟩ ⟨"java/util/ArrayList", "get", "(I)Ljava/lang/Object;"⟩ ∈ xv_T := xv_in (List.mem_append_right _ (List.mem_of_getElem? (i := 186) (by decide +kernel))) (by decide +kernel)
theorem iw_187 : Cond.code ⟨"java/util/ArrayList", "get", "(I)Ljava/lang/Object;"⟩ prog_31_method_20_code 2 (some (.object "java/lang/Object")) ∈ xv_T := xv_in (List.mem_append_right _ (List.mem_of_getElem? (i := 187) (by decide +kernel))) (by decide +kernel)
theorem iw_188 : Cond.methodLink "java/util/ArrayList" 118 ⟨"java/util/Objects", "checkIndex", "(II)I"⟩ ∈ xv_T := xv_in (List.mem_append_right _ (List.mem_of_getElem? (i := 188) (by decide +kernel))) (by decide +kernel)
theorem iw_189 : Cond.static ⟨"java/util/Objects", "checkIndex", "(II)I"⟩ ∈ xv_T := xv_in (List.mem_append_right _ (List.mem_of_getElem? (i := 189) (by decide +kernel))) (by decide +kernel)
theorem iw_190 : Cond.code ⟨"java/util/Objects", "checkIndex", "(II)I"⟩ prog_36_method_17_code 2 (some .int) ∈ xv_T := xv_in (List.mem_append_right _ (List.mem_of_getElem? (i := 190) (by decide +kernel))) (by decide +kernel)
theorem iw_191 : Cond.methodLink "java/util/Objects" 105 ⟨"jdk/internal/util/Preconditions", "checkIndex", "(IILjava/util/function/BiFunction;)I"⟩ ∈ xv_T := xv_in (List.mem_append_right _ (List.mem_of_getElem? (i := 191) (by decide +kernel))) (by decide +kernel)
theorem iw_192 : Cond.static ⟨"jdk/internal/util/Preconditions", "checkIndex", "(IILjava/util/function/BiFunction;)I"⟩ ∈ xv_T := xv_in (List.mem_append_right _ (List.mem_of_getElem? (i := 192) (by decide +kernel))) (by decide +kernel)
theorem iw_193 : Cond.code ⟨"jdk/internal/util/Preconditions", "checkIndex", "(IILjava/util/function/BiFunction;)I"⟩ prog_40_method_11_code 3 (some .int) ∈ xv_T := xv_in (List.mem_append_right _ (List.mem_of_getElem? (i := 193) (by decide +kernel))) (by decide +kernel)
theorem iw_194 : Cond.methodLink "java/util/ArrayList" 123 ⟨"java/util/ArrayList", "elementData", "(I)Ljava/lang/Object;"⟩ ∈ xv_T := xv_in (List.mem_append_right _ (List.mem_of_getElem? (i := 194) (by decide +kernel))) (by decide +kernel)
theorem iw_195 : Cond.instanceMethod ⟨"java/util/ArrayList", "elementData", "(I)Ljava/lang/Object;"⟩ ∈ xv_T := xv_in (List.mem_append_right _ (List.mem_of_getElem? (i := 195) (by decide +kernel))) (by decide +kernel)
theorem iw_196 : Cond.selects "java/util/ArrayList" ⟨"java/util/ArrayList", "elementData", "(I)Ljava/lang/Object;"⟩ ⟨"java/util/ArrayList", "elementData", "(I)Ljava/lang/Object;"⟩ ∈ xv_T := xv_in (List.mem_append_right _ (List.mem_of_getElem? (i := 196) (by decide +kernel))) (by decide +kernel)
theorem iw_197 : Cond.code ⟨"java/util/ArrayList", "elementData", "(I)Ljava/lang/Object;"⟩ prog_31_method_18_code 2 (some (.object "java/lang/Object")) ∈ xv_T := xv_in (List.mem_append_right _ (List.mem_of_getElem? (i := 197) (by decide +kernel))) (by decide +kernel)
theorem iw_233 : Cond.selects "java/util/ArrayList" ⟨"java/util/ArrayList", "clear", "()V"⟩ ⟨"java/util/ArrayList", "clear", "()V"⟩ ∈ xv_T := xv_in (List.mem_append_right _ (List.mem_of_getElem? (i := 233) (by decide +kernel))) (by decide +kernel)
theorem iw_234 : Cond.code ⟨"java/util/ArrayList", "clear", "()V"⟩ prog_31_method_40_code 4 none ∈ xv_T := xv_in (List.mem_append_right _ (List.mem_of_getElem? (i := 234) (by decide +kernel))) (by decide +kernel)
theorem iw_254 : Cond.selects "java/util/ArrayList" ⟨"java/util/ArrayList", "remove", "(I)Ljava/lang/Object;"⟩ ⟨"java/util/ArrayList", "remove", "(I)Ljava/lang/Object;"⟩ ∈ xv_T := xv_in (List.mem_append_right _ (List.mem_of_getElem? (i := 254) (by decide +kernel))) (by decide +kernel)
theorem iw_255 : Cond.code ⟨"java/util/ArrayList", "remove", "(I)Ljava/lang/Object;"⟩ prog_31_method_29_code 4 (some (.object "java/lang/Object")) ∈ xv_T := xv_in (List.mem_append_right _ (List.mem_of_getElem? (i := 255) (by decide +kernel))) (by decide +kernel)
theorem iw_256 : Cond.methodLink "java/util/ArrayList" 144 ⟨"java/util/ArrayList", "fastRemove", "([Ljava/lang/Object;I)V"⟩ ∈ xv_T := xv_in (List.mem_append_right _ (List.mem_of_getElem? (i := 256) (by decide +kernel))) (by decide +kernel)
theorem iw_258 : Cond.instanceMethod ⟨"java/util/ArrayList", "fastRemove", "([Ljava/lang/Object;I)V"⟩ ∈ xv_T := xv_in (List.mem_append_right _ (List.mem_of_getElem? (i := 258) (by decide +kernel))) (by decide +kernel)
theorem iw_259 : Cond.code ⟨"java/util/ArrayList", "fastRemove", "([Ljava/lang/Object;I)V"⟩ prog_31_method_39_code 4 none ∈ xv_T := xv_in (List.mem_append_right _ (List.mem_of_getElem? (i := 259) (by decide +kernel))) (by decide +kernel)
theorem iw_260 : Cond.methodLink "java/util/ArrayList" 112 ⟨"java/lang/System", "arraycopy", "(Ljava/lang/Object;ILjava/lang/Object;II)V"⟩ ∈ xv_T := xv_in (List.mem_append_right _ (List.mem_of_getElem? (i := 260) (by decide +kernel))) (by decide +kernel)
theorem iw_261 : Cond.static ⟨"java/lang/System", "arraycopy", "(Ljava/lang/Object;ILjava/lang/Object;II)V"⟩ ∈ xv_T := xv_in (List.mem_append_right _ (List.mem_of_getElem? (i := 261) (by decide +kernel))) (by decide +kernel)
theorem iw_262 : Cond.native ⟨"java/lang/System", "arraycopy", "(Ljava/lang/Object;ILjava/lang/Object;II)V"⟩ ∈ xv_T := xv_in (List.mem_append_right _ (List.mem_of_getElem? (i := 262) (by decide +kernel))) (by decide +kernel)
theorem iw_281 : Cond.laysFinal "NotedVolume$Gathering" "NotedVolume$Gathering" "file" "I" ∈ xv_T := xv_in (List.mem_append_right _ (List.mem_of_getElem? (i := 281) (by decide +kernel))) (by decide +kernel)
theorem iw_283 : Cond.lays "NotedVolume$Gathering" "NotedVolume$Gathering" "reasons" "I" ∈ xv_T := xv_in (List.mem_append_right _ (List.mem_of_getElem? (i := 283) (by decide +kernel))) (by decide +kernel)
theorem iw_288 : Cond.selects "java/util/ArrayList" ⟨"java/util/ArrayList", "add", "(Ljava/lang/Object;)Z"⟩ ⟨"java/util/ArrayList", "add", "(Ljava/lang/Object;)Z"⟩ ∈ xv_T := xv_in (List.mem_append_right _ (List.mem_of_getElem? (i := 288) (by decide +kernel))) (by decide +kernel)
theorem iw_289 : Cond.code ⟨"java/util/ArrayList", "add", "(Ljava/lang/Object;)Z"⟩ prog_31_method_25_code 2 (some .boolean) ∈ xv_T := xv_in (List.mem_append_right _ (List.mem_of_getElem? (i := 289) (by decide +kernel))) (by decide +kernel)
theorem iw_290 : Cond.methodLink "java/util/ArrayList" 131 ⟨"java/util/ArrayList", "add", "(Ljava/lang/Object;[Ljava/lang/Object;I)V"⟩ ∈ xv_T := xv_in (List.mem_append_right _ (List.mem_of_getElem? (i := 290) (by decide +kernel))) (by decide +kernel)
theorem iw_292 : Cond.instanceMethod ⟨"java/util/ArrayList", "add", "(Ljava/lang/Object;[Ljava/lang/Object;I)V"⟩ ∈ xv_T := xv_in (List.mem_append_right _ (List.mem_of_getElem? (i := 292) (by decide +kernel))) (by decide +kernel)
theorem iw_293 : Cond.code ⟨"java/util/ArrayList", "add", "(Ljava/lang/Object;[Ljava/lang/Object;I)V"⟩ prog_31_method_24_code 4 none ∈ xv_T := xv_in (List.mem_append_right _ (List.mem_of_getElem? (i := 293) (by decide +kernel))) (by decide +kernel)
theorem iw_294 : Cond.methodLink "java/util/ArrayList" 129 ⟨"java/util/ArrayList", "grow", "()[Ljava/lang/Object;"⟩ ∈ xv_T := xv_in (List.mem_append_right _ (List.mem_of_getElem? (i := 294) (by decide +kernel))) (by decide +kernel)
theorem iw_296 : Cond.instanceMethod ⟨"java/util/ArrayList", "grow", "()[Ljava/lang/Object;"⟩ ∈ xv_T := xv_in (List.mem_append_right _ (List.mem_of_getElem? (i := 296) (by decide +kernel))) (by decide +kernel)
theorem iw_297 : Cond.code ⟨"java/util/ArrayList", "grow", "()[Ljava/lang/Object;"⟩ prog_31_method_7_code 1 (some (.array (.object "java/lang/Object"))) ∈ xv_T := xv_in (List.mem_append_right _ (List.mem_of_getElem? (i := 297) (by decide +kernel))) (by decide +kernel)
theorem iw_298 : Cond.methodLink "java/util/ArrayList" 69 ⟨"java/util/ArrayList", "grow", "(I)[Ljava/lang/Object;"⟩ ∈ xv_T := xv_in (List.mem_append_right _ (List.mem_of_getElem? (i := 298) (by decide +kernel))) (by decide +kernel)
theorem iw_300 : Cond.instanceMethod ⟨"java/util/ArrayList", "grow", "(I)[Ljava/lang/Object;"⟩ ∈ xv_T := xv_in (List.mem_append_right _ (List.mem_of_getElem? (i := 300) (by decide +kernel))) (by decide +kernel)
theorem iw_301 : Cond.code ⟨"java/util/ArrayList", "grow", "(I)[Ljava/lang/Object;"⟩ prog_31_method_6_code 4 (some (.array (.object "java/lang/Object"))) ∈ xv_T := xv_in (List.mem_append_right _ (List.mem_of_getElem? (i := 301) (by decide +kernel))) (by decide +kernel)
theorem iw_302 : Cond.methodLink "java/util/ArrayList" 73 ⟨"jdk/internal/util/ArraysSupport", "newLength", "(III)I"⟩ ∈ xv_T := xv_in (List.mem_append_right _ (List.mem_of_getElem? (i := 302) (by decide +kernel))) (by decide +kernel)
theorem iw_303 : Cond.static ⟨"jdk/internal/util/ArraysSupport", "newLength", "(III)I"⟩ ∈ xv_T := xv_in (List.mem_append_right _ (List.mem_of_getElem? (i := 303) (by decide +kernel))) (by decide +kernel)
theorem iw_304 : Cond.code ⟨"jdk/internal/util/ArraysSupport", "newLength", "(III)I"⟩ prog_39_method_27_code 4 (some .int) ∈ xv_T := xv_in (List.mem_append_right _ (List.mem_of_getElem? (i := 304) (by decide +kernel))) (by decide +kernel)
theorem iw_305 : Cond.methodLink "jdk/internal/util/ArraysSupport" 194 ⟨"java/lang/Math", "max", "(II)I"⟩ ∈ xv_T := xv_in (List.mem_append_right _ (List.mem_of_getElem? (i := 305) (by decide +kernel))) (by decide +kernel)
theorem iw_306 : Cond.static ⟨"java/lang/Math", "max", "(II)I"⟩ ∈ xv_T := xv_in (List.mem_append_right _ (List.mem_of_getElem? (i := 306) (by decide +kernel))) (by decide +kernel)
theorem iw_307 : Cond.code ⟨"java/lang/Math", "max", "(II)I"⟩ prog_20_method_65_code 2 (some .int) ∈ xv_T := xv_in (List.mem_append_right _ (List.mem_of_getElem? (i := 307) (by decide +kernel))) (by decide +kernel)
theorem iw_308 : Cond.constant "jdk/internal/util/ArraysSupport" 200 (2147483639 : Int32) ∈ xv_T := xv_in (List.mem_append_right _ (List.mem_of_getElem? (i := 308) (by decide +kernel))) (by decide +kernel)
theorem iw_312 : Cond.methodLink "java/util/ArrayList" 66 ⟨"java/util/Arrays", "copyOf", "([Ljava/lang/Object;I)[Ljava/lang/Object;"⟩ ∈ xv_T := xv_in (List.mem_append_right _ (List.mem_of_getElem? (i := 312) (by decide +kernel))) (by decide +kernel)
theorem iw_313 : Cond.static ⟨"java/util/Arrays", "copyOf", "([Ljava/lang/Object;I)[Ljava/lang/Object;"⟩ ∈ xv_T := xv_in (List.mem_append_right _ (List.mem_of_getElem? (i := 313) (by decide +kernel))) (by decide +kernel)
theorem iw_314 : Cond.code ⟨"java/util/Arrays", "copyOf", "([Ljava/lang/Object;I)[Ljava/lang/Object;"⟩ prog_32_method_119_code 2 (some (.array (.object "java/lang/Object"))) ∈ xv_T := xv_in (List.mem_append_right _ (List.mem_of_getElem? (i := 314) (by decide +kernel))) (by decide +kernel)
theorem iw_315 : Cond.methodLink "java/util/Arrays" 86 ⟨"java/lang/Object", "getClass", "()Ljava/lang/Class;"⟩ ∈ xv_T := xv_in (List.mem_append_right _ (List.mem_of_getElem? (i := 315) (by decide +kernel))) (by decide +kernel)
theorem iw_316 : Cond.instanceMethod ⟨"java/lang/Object", "getClass", "()Ljava/lang/Class;"⟩ ∈ xv_T := xv_in (List.mem_append_right _ (List.mem_of_getElem? (i := 316) (by decide +kernel))) (by decide +kernel)
theorem iw_335 : Cond.native ⟨"java/lang/Object", "getClass", "()Ljava/lang/Class;"⟩ ∈ xv_T := xv_in (List.mem_append_right _ (List.mem_of_getElem? (i := 335) (by decide +kernel))) (by decide +kernel)
theorem iw_336 : Cond.methodLink "java/util/Arrays" 300 ⟨"java/util/Arrays", "copyOf", "([Ljava/lang/Object;ILjava/lang/Class;)[Ljava/lang/Object;"⟩ ∈ xv_T := xv_in (List.mem_append_right _ (List.mem_of_getElem? (i := 336) (by decide +kernel))) (by decide +kernel)
theorem iw_337 : Cond.static ⟨"java/util/Arrays", "copyOf", "([Ljava/lang/Object;ILjava/lang/Class;)[Ljava/lang/Object;"⟩ ∈ xv_T := xv_in (List.mem_append_right _ (List.mem_of_getElem? (i := 337) (by decide +kernel))) (by decide +kernel)
theorem iw_338 : Cond.code ⟨"java/util/Arrays", "copyOf", "([Ljava/lang/Object;ILjava/lang/Class;)[Ljava/lang/Object;"⟩ prog_32_method_120_code 4 (some (.array (.object "java/lang/Object"))) ∈ xv_T := xv_in (List.mem_append_right _ (List.mem_of_getElem? (i := 338) (by decide +kernel))) (by decide +kernel)
theorem iw_339 : Cond.classLink "java/util/Arrays" 110 "[Ljava/lang/Object;" ∈ xv_T := xv_in (List.mem_append_right _ (List.mem_of_getElem? (i := 339) (by decide +kernel))) (by decide +kernel)
theorem iw_341 : Cond.classLink "java/util/Arrays" 2 "java/lang/Object" ∈ xv_T := xv_in (List.mem_append_right _ (List.mem_of_getElem? (i := 341) (by decide +kernel))) (by decide +kernel)
theorem iw_342 : Cond.methodLink "java/util/Arrays" 304 ⟨"java/lang/Math", "min", "(II)I"⟩ ∈ xv_T := xv_in (List.mem_append_right _ (List.mem_of_getElem? (i := 342) (by decide +kernel))) (by decide +kernel)
theorem iw_343 : Cond.static ⟨"java/lang/Math", "min", "(II)I"⟩ ∈ xv_T := xv_in (List.mem_append_right _ (List.mem_of_getElem? (i := 343) (by decide +kernel))) (by decide +kernel)
theorem iw_344 : Cond.code ⟨"java/lang/Math", "min", "(II)I"⟩ prog_20_method_69_code 2 (some .int) ∈ xv_T := xv_in (List.mem_append_right _ (List.mem_of_getElem? (i := 344) (by decide +kernel))) (by decide +kernel)
theorem iw_345 : Cond.methodLink "java/util/Arrays" 150 ⟨"java/lang/System", "arraycopy", "(Ljava/lang/Object;ILjava/lang/Object;II)V"⟩ ∈ xv_T := xv_in (List.mem_append_right _ (List.mem_of_getElem? (i := 345) (by decide +kernel))) (by decide +kernel)
theorem iw_346 : Cond.methodLink "java/util/ArrayList" 79 ⟨"java/lang/Math", "max", "(II)I"⟩ ∈ xv_T := xv_in (List.mem_append_right _ (List.mem_of_getElem? (i := 346) (by decide +kernel))) (by decide +kernel)
theorem iw_347 : Cond.classLink "java/util/ArrayList" 7 "java/lang/Object" ∈ xv_T := xv_in (List.mem_append_right _ (List.mem_of_getElem? (i := 347) (by decide +kernel))) (by decide +kernel)
theorem iw_354 : Cond.selects "java/util/ArrayList" ⟨"java/util/ArrayList", "isEmpty", "()Z"⟩ ⟨"java/util/ArrayList", "isEmpty", "()Z"⟩ ∈ xv_T := xv_in (List.mem_append_right _ (List.mem_of_getElem? (i := 354) (by decide +kernel))) (by decide +kernel)
theorem iw_355 : Cond.code ⟨"java/util/ArrayList", "isEmpty", "()Z"⟩ prog_31_method_9_code 1 (some .boolean) ∈ xv_T := xv_in (List.mem_append_right _ (List.mem_of_getElem? (i := 355) (by decide +kernel))) (by decide +kernel)
theorem iw_386 : Cond.laysFinal "NotedVolume$Entry" "NotedVolume$Entry" "number" "I" ∈ xv_T := xv_in (List.mem_append_right _ (List.mem_of_getElem? (i := 386) (by decide +kernel))) (by decide +kernel)
theorem iw_388 : Cond.laysFinal "NotedVolume$Entry" "NotedVolume$Entry" "sort" "I" ∈ xv_T := xv_in (List.mem_append_right _ (List.mem_of_getElem? (i := 388) (by decide +kernel))) (by decide +kernel)
theorem iw_390 : Cond.laysFinal "NotedVolume$Entry" "NotedVolume$Entry" "parent" "I" ∈ xv_T := xv_in (List.mem_append_right _ (List.mem_of_getElem? (i := 390) (by decide +kernel))) (by decide +kernel)
theorem iw_392 : Cond.laysFinal "NotedVolume$Entry" "NotedVolume$Entry" "name" "I" ∈ xv_T := xv_in (List.mem_append_right _ (List.mem_of_getElem? (i := 392) (by decide +kernel))) (by decide +kernel)
theorem iw_394 : Cond.laysFinal "NotedVolume$Entry" "NotedVolume$Entry" "mark" "I" ∈ xv_T := xv_in (List.mem_append_right _ (List.mem_of_getElem? (i := 394) (by decide +kernel))) (by decide +kernel)
theorem iw_411 : Cond.laysFinal "NotedVolume$Note" "NotedVolume$Note" "entry" "LNotedVolume$Entry;" ∈ xv_T := xv_in (List.mem_append_right _ (List.mem_of_getElem? (i := 411) (by decide +kernel))) (by decide +kernel)
theorem iw_413 : Cond.laysFinal "NotedVolume$Note" "NotedVolume$Note" "reasons" "I" ∈ xv_T := xv_in (List.mem_append_right _ (List.mem_of_getElem? (i := 413) (by decide +kernel))) (by decide +kernel)
theorem iw_603 : Cond.selects "java/util/ArrayList" ⟨"java/util/ArrayList", "set", "(ILjava/lang/Object;)Ljava/lang/Object;"⟩ ⟨"java/util/ArrayList", "set", "(ILjava/lang/Object;)Ljava/lang/Object;"⟩ ∈ xv_T := xv_in (List.mem_append_right _ (List.mem_of_getElem? (i := 603) (by decide +kernel))) (by decide +kernel)
theorem iw_604 : Cond.code ⟨"java/util/ArrayList", "set", "(ILjava/lang/Object;)Ljava/lang/Object;"⟩ prog_31_method_23_code 4 (some (.object "java/lang/Object")) ∈ xv_T := xv_in (List.mem_append_right _ (List.mem_of_getElem? (i := 604) (by decide +kernel))) (by decide +kernel)
theorem iw_607 : Cond.selects "java/util/ArrayList" ⟨"java/util/ArrayList", "add", "(ILjava/lang/Object;)V"⟩ ⟨"java/util/ArrayList", "add", "(ILjava/lang/Object;)V"⟩ ∈ xv_T := xv_in (List.mem_append_right _ (List.mem_of_getElem? (i := 607) (by decide +kernel))) (by decide +kernel)
theorem iw_608 : Cond.code ⟨"java/util/ArrayList", "add", "(ILjava/lang/Object;)V"⟩ prog_31_method_26_code 5 none ∈ xv_T := xv_in (List.mem_append_right _ (List.mem_of_getElem? (i := 608) (by decide +kernel))) (by decide +kernel)
theorem iw_609 : Cond.methodLink "java/util/ArrayList" 135 ⟨"java/util/ArrayList", "rangeCheckForAdd", "(I)V"⟩ ∈ xv_T := xv_in (List.mem_append_right _ (List.mem_of_getElem? (i := 609) (by decide +kernel))) (by decide +kernel)
theorem iw_611 : Cond.instanceMethod ⟨"java/util/ArrayList", "rangeCheckForAdd", "(I)V"⟩ ∈ xv_T := xv_in (List.mem_append_right _ (List.mem_of_getElem? (i := 611) (by decide +kernel))) (by decide +kernel)
theorem iw_612 : Cond.code ⟨"java/util/ArrayList", "rangeCheckForAdd", "(I)V"⟩ prog_31_method_45_code 2 none ∈ xv_T := xv_in (List.mem_append_right _ (List.mem_of_getElem? (i := 612) (by decide +kernel))) (by decide +kernel)
theorem iw_1114 : Cond.lays "NotedVolumeModel" "NotedVolumeModel" "thrown" "I" ∈ xv_T := xv_in (List.mem_append_right _ (List.mem_of_getElem? (i := 1114) (by decide +kernel))) (by decide +kernel)
theorem iw_1116 : Cond.lays "NotedVolumeModel" "NotedVolumeModel" "count" "I" ∈ xv_T := xv_in (List.mem_append_right _ (List.mem_of_getElem? (i := 1116) (by decide +kernel))) (by decide +kernel)
theorem iw_1118 : Cond.laysFinal "NotedVolumeModel" "NotedVolumeModel" "files" "[I" ∈ xv_T := xv_in (List.mem_append_right _ (List.mem_of_getElem? (i := 1118) (by decide +kernel))) (by decide +kernel)
theorem iw_1120 : Cond.laysFinal "NotedVolumeModel" "NotedVolumeModel" "sorts" "[I" ∈ xv_T := xv_in (List.mem_append_right _ (List.mem_of_getElem? (i := 1120) (by decide +kernel))) (by decide +kernel)
theorem iw_1122 : Cond.laysFinal "NotedVolumeModel" "NotedVolumeModel" "parents" "[I" ∈ xv_T := xv_in (List.mem_append_right _ (List.mem_of_getElem? (i := 1122) (by decide +kernel))) (by decide +kernel)
theorem iw_1124 : Cond.laysFinal "NotedVolumeModel" "NotedVolumeModel" "names" "[I" ∈ xv_T := xv_in (List.mem_append_right _ (List.mem_of_getElem? (i := 1124) (by decide +kernel))) (by decide +kernel)
theorem iw_1126 : Cond.laysFinal "NotedVolumeModel" "NotedVolumeModel" "marks" "[I" ∈ xv_T := xv_in (List.mem_append_right _ (List.mem_of_getElem? (i := 1126) (by decide +kernel))) (by decide +kernel)
theorem iw_1128 : Cond.lays "NotedVolumeModel" "NotedVolumeModel" "latest" "I" ∈ xv_T := xv_in (List.mem_append_right _ (List.mem_of_getElem? (i := 1128) (by decide +kernel))) (by decide +kernel)
theorem iw_1130 : Cond.lays "NotedVolumeModel" "NotedVolumeModel" "head" "I" ∈ xv_T := xv_in (List.mem_append_right _ (List.mem_of_getElem? (i := 1130) (by decide +kernel))) (by decide +kernel)
theorem iw_1132 : Cond.laysFinal "NotedVolumeModel" "NotedVolumeModel" "notes" "[I" ∈ xv_T := xv_in (List.mem_append_right _ (List.mem_of_getElem? (i := 1132) (by decide +kernel))) (by decide +kernel)
theorem iw_1134 : Cond.lays "NotedVolumeModel" "NotedVolumeModel" "gatherings" "I" ∈ xv_T := xv_in (List.mem_append_right _ (List.mem_of_getElem? (i := 1134) (by decide +kernel))) (by decide +kernel)
theorem iw_1136 : Cond.laysFinal "NotedVolumeModel" "NotedVolumeModel" "gathered" "[I" ∈ xv_T := xv_in (List.mem_append_right _ (List.mem_of_getElem? (i := 1136) (by decide +kernel))) (by decide +kernel)
theorem iw_1138 : Cond.laysFinal "NotedVolumeModel" "NotedVolumeModel" "reasons" "[I" ∈ xv_T := xv_in (List.mem_append_right _ (List.mem_of_getElem? (i := 1138) (by decide +kernel))) (by decide +kernel)
theorem iw_1140 : Cond.lays "NotedVolumeModel" "NotedVolumeModel" "off" "Z" ∈ xv_T := xv_in (List.mem_append_right _ (List.mem_of_getElem? (i := 1140) (by decide +kernel))) (by decide +kernel)
theorem iw_1142 : Cond.lays "NotedVolumeModel" "NotedVolumeModel" "left" "I" ∈ xv_T := xv_in (List.mem_append_right _ (List.mem_of_getElem? (i := 1142) (by decide +kernel))) (by decide +kernel)
theorem iw_1144 : Cond.laysFinal "NotedVolumeModel" "NotedVolumeModel" "cursors" "[I" ∈ xv_T := xv_in (List.mem_append_right _ (List.mem_of_getElem? (i := 1144) (by decide +kernel))) (by decide +kernel)
theorem iw_1146 : Cond.laysFinal "NotedVolumeModel" "NotedVolumeModel" "masks" "[I" ∈ xv_T := xv_in (List.mem_append_right _ (List.mem_of_getElem? (i := 1146) (by decide +kernel))) (by decide +kernel)
theorem iw_1148 : Cond.laysFinal "NotedVolumeModel" "NotedVolumeModel" "lists" "[Z" ∈ xv_T := xv_in (List.mem_append_right _ (List.mem_of_getElem? (i := 1148) (by decide +kernel))) (by decide +kernel)
theorem iw_1150 : Cond.laysFinal "NotedVolumeModel" "NotedVolumeModel" "lasts" "[I" ∈ xv_T := xv_in (List.mem_append_right _ (List.mem_of_getElem? (i := 1150) (by decide +kernel))) (by decide +kernel)
theorem iw_1152 : Cond.laysFinal "NotedVolumeModel" "NotedVolumeModel" "pages" "[I" ∈ xv_T := xv_in (List.mem_append_right _ (List.mem_of_getElem? (i := 1152) (by decide +kernel))) (by decide +kernel)
theorem iw_1154 : Cond.laysFinal "NotedVolumeModel" "NotedVolumeModel" "copies" "[I" ∈ xv_T := xv_in (List.mem_append_right _ (List.mem_of_getElem? (i := 1154) (by decide +kernel))) (by decide +kernel)
theorem iw_1156 : Cond.laysFinal "NotedVolumeModel" "NotedVolumeModel" "copyFiles" "[I" ∈ xv_T := xv_in (List.mem_append_right _ (List.mem_of_getElem? (i := 1156) (by decide +kernel))) (by decide +kernel)
theorem iw_1158 : Cond.laysFinal "NotedVolumeModel" "NotedVolumeModel" "copySorts" "[I" ∈ xv_T := xv_in (List.mem_append_right _ (List.mem_of_getElem? (i := 1158) (by decide +kernel))) (by decide +kernel)
theorem iw_1160 : Cond.laysFinal "NotedVolumeModel" "NotedVolumeModel" "copyParents" "[I" ∈ xv_T := xv_in (List.mem_append_right _ (List.mem_of_getElem? (i := 1160) (by decide +kernel))) (by decide +kernel)
theorem iw_1162 : Cond.laysFinal "NotedVolumeModel" "NotedVolumeModel" "copyNames" "[I" ∈ xv_T := xv_in (List.mem_append_right _ (List.mem_of_getElem? (i := 1162) (by decide +kernel))) (by decide +kernel)
theorem iw_1164 : Cond.laysFinal "NotedVolumeModel" "NotedVolumeModel" "copyMarks" "[I" ∈ xv_T := xv_in (List.mem_append_right _ (List.mem_of_getElem? (i := 1164) (by decide +kernel))) (by decide +kernel)
theorem iw_1166 : Cond.laysFinal "NotedVolumeModel" "NotedVolumeModel" "toClose" "[I" ∈ xv_T := xv_in (List.mem_append_right _ (List.mem_of_getElem? (i := 1166) (by decide +kernel))) (by decide +kernel)
theorem iw_1168 : Cond.laysFinal "NotedVolumeModel" "NotedVolumeModel" "closing" "[I" ∈ xv_T := xv_in (List.mem_append_right _ (List.mem_of_getElem? (i := 1168) (by decide +kernel))) (by decide +kernel)
theorem iw_1400 : Cond.selects "[Ljava/lang/Object;" ⟨"java/lang/Object", "getClass", "()Ljava/lang/Class;"⟩ ⟨"java/lang/Object", "getClass", "()Ljava/lang/Class;"⟩ ∈ xv_T := xv_in (List.mem_append_right _ (List.mem_of_getElem? (i := 1400) (by decide +kernel))) (by decide +kernel)
theorem ps_0 : Cond.selects "java/util/ArrayList" ⟨"java/util/ArrayList", "fastRemove", "([Ljava/lang/Object;I)V"⟩ ⟨"java/util/ArrayList", "fastRemove", "([Ljava/lang/Object;I)V"⟩ ∈ xv_T := xv_in (List.mem_append_left _ (List.mem_of_getElem? (i := 0) (by decide +kernel))) (by decide +kernel)
theorem ps_1 : Cond.selects "java/util/ArrayList" ⟨"java/util/ArrayList", "add", "(Ljava/lang/Object;[Ljava/lang/Object;I)V"⟩ ⟨"java/util/ArrayList", "add", "(Ljava/lang/Object;[Ljava/lang/Object;I)V"⟩ ∈ xv_T := xv_in (List.mem_append_left _ (List.mem_of_getElem? (i := 1) (by decide +kernel))) (by decide +kernel)
theorem ps_2 : Cond.selects "java/util/ArrayList" ⟨"java/util/ArrayList", "grow", "()[Ljava/lang/Object;"⟩ ⟨"java/util/ArrayList", "grow", "()[Ljava/lang/Object;"⟩ ∈ xv_T := xv_in (List.mem_append_left _ (List.mem_of_getElem? (i := 2) (by decide +kernel))) (by decide +kernel)
theorem ps_3 : Cond.selects "java/util/ArrayList" ⟨"java/util/ArrayList", "grow", "(I)[Ljava/lang/Object;"⟩ ⟨"java/util/ArrayList", "grow", "(I)[Ljava/lang/Object;"⟩ ∈ xv_T := xv_in (List.mem_append_left _ (List.mem_of_getElem? (i := 3) (by decide +kernel))) (by decide +kernel)
theorem ps_14 : Cond.selects "java/util/ArrayList" ⟨"java/util/ArrayList", "rangeCheckForAdd", "(I)V"⟩ ⟨"java/util/ArrayList", "rangeCheckForAdd", "(I)V"⟩ ∈ xv_T := xv_in (List.mem_append_left _ (List.mem_of_getElem? (i := 14) (by decide +kernel))) (by decide +kernel)
theorem ly_0 : ∀ w ∈ u_ws "NotedVolume" tx_0 7, w ∈ xv_T := by
  intro w hw
  obtain ⟨k, hk, rfl⟩ := List.mem_map.mp hw
  have hk := List.mem_range.mp hk
  rcases (show k = 0 ∨ k = 1 ∨ k = 2 ∨ k = 3 ∨ k = 4 ∨ k = 5 ∨ k = 6 by omega) with rfl | rfl | rfl | rfl | rfl | rfl | rfl
  · exact iw_148
  · exact iw_150
  · exact iw_152
  · exact iw_154
  · exact iw_156
  · exact iw_158
  · exact iw_160
theorem tk_0 : ∀ k, k < 7 → parseFieldDescriptor (tx_0 k).2.2.1 = some (ty_0 k) := by decide +kernel
theorem nk_0 : ∀ a, a < 7 → ∀ b, b < 7 → a ≠ b → (tx_0 a).2.1 ≠ (tx_0 b).2.1 := by decide +kernel
theorem ly_1 : ∀ w ∈ u_ws "NotedVolume$Entry" tx_1 5, w ∈ xv_T := by
  intro w hw
  obtain ⟨k, hk, rfl⟩ := List.mem_map.mp hw
  have hk := List.mem_range.mp hk
  rcases (show k = 0 ∨ k = 1 ∨ k = 2 ∨ k = 3 ∨ k = 4 by omega) with rfl | rfl | rfl | rfl | rfl
  · exact iw_386
  · exact iw_388
  · exact iw_390
  · exact iw_392
  · exact iw_394
theorem tk_1 : ∀ k, k < 5 → parseFieldDescriptor (tx_1 k).2.2.1 = some (ty_1 k) := by decide +kernel
theorem nk_1 : ∀ a, a < 5 → ∀ b, b < 5 → a ≠ b → (tx_1 a).2.1 ≠ (tx_1 b).2.1 := by decide +kernel
theorem ly_2 : ∀ w ∈ u_ws "NotedVolume$FileTable" tx_2 2, w ∈ xv_T := by
  intro w hw
  obtain ⟨k, hk, rfl⟩ := List.mem_map.mp hw
  have hk := List.mem_range.mp hk
  rcases (show k = 0 ∨ k = 1 by omega) with rfl | rfl
  · exact iw_75
  · exact iw_77
theorem tk_2 : ∀ k, k < 2 → parseFieldDescriptor (tx_2 k).2.2.1 = some (ty_2 k) := by decide +kernel
theorem nk_2 : ∀ a, a < 2 → ∀ b, b < 2 → a ≠ b → (tx_2 a).2.1 ≠ (tx_2 b).2.1 := by decide +kernel
theorem ly_3 : ∀ w ∈ u_ws "NotedVolume$Note" tx_3 2, w ∈ xv_T := by
  intro w hw
  obtain ⟨k, hk, rfl⟩ := List.mem_map.mp hw
  have hk := List.mem_range.mp hk
  rcases (show k = 0 ∨ k = 1 by omega) with rfl | rfl
  · exact iw_411
  · exact iw_413
theorem tk_3 : ∀ k, k < 2 → parseFieldDescriptor (tx_3 k).2.2.1 = some (ty_3 k) := by decide +kernel
theorem nk_3 : ∀ a, a < 2 → ∀ b, b < 2 → a ≠ b → (tx_3 a).2.1 ≠ (tx_3 b).2.1 := by decide +kernel
theorem ly_4 : ∀ w ∈ u_ws "NotedVolume$Ring" tx_4 2, w ∈ xv_T := by
  intro w hw
  obtain ⟨k, hk, rfl⟩ := List.mem_map.mp hw
  have hk := List.mem_range.mp hk
  rcases (show k = 0 ∨ k = 1 by omega) with rfl | rfl
  · exact iw_90
  · exact iw_92
theorem tk_4 : ∀ k, k < 2 → parseFieldDescriptor (tx_4 k).2.2.1 = some (ty_4 k) := by decide +kernel
theorem nk_4 : ∀ a, a < 2 → ∀ b, b < 2 → a ≠ b → (tx_4 a).2.1 ≠ (tx_4 b).2.1 := by decide +kernel
theorem ly_5 : ∀ w ∈ u_ws "NotedVolume$Gathering" tx_5 2, w ∈ xv_T := by
  intro w hw
  obtain ⟨k, hk, rfl⟩ := List.mem_map.mp hw
  have hk := List.mem_range.mp hk
  rcases (show k = 0 ∨ k = 1 by omega) with rfl | rfl
  · exact iw_281
  · exact iw_283
theorem tk_5 : ∀ k, k < 2 → parseFieldDescriptor (tx_5 k).2.2.1 = some (ty_5 k) := by decide +kernel
theorem nk_5 : ∀ a, a < 2 → ∀ b, b < 2 → a ≠ b → (tx_5 a).2.1 ≠ (tx_5 b).2.1 := by decide +kernel
theorem ly_6 : ∀ w ∈ u_ws "NotedVolume$Gatherings" tx_6 1, w ∈ xv_T := by
  intro w hw
  obtain ⟨k, hk, rfl⟩ := List.mem_map.mp hw
  have hk := List.mem_range.mp hk
  rcases (show k = 0 by omega) with rfl
  · exact iw_104
theorem tk_6 : ∀ k, k < 1 → parseFieldDescriptor (tx_6 k).2.2.1 = some (ty_6 k) := by decide +kernel
theorem nk_6 : ∀ a, a < 1 → ∀ b, b < 1 → a ≠ b → (tx_6 a).2.1 ≠ (tx_6 b).2.1 := by decide +kernel
theorem ly_7 : ∀ w ∈ u_ws "NotedVolume$Subscriber" tx_7 6, w ∈ xv_T := by
  intro w hw
  obtain ⟨k, hk, rfl⟩ := List.mem_map.mp hw
  have hk := List.mem_range.mp hk
  rcases (show k = 0 ∨ k = 1 ∨ k = 2 ∨ k = 3 ∨ k = 4 ∨ k = 5 by omega) with rfl | rfl | rfl | rfl | rfl | rfl
  · exact iw_127
  · exact iw_129
  · exact iw_131
  · exact iw_133
  · exact iw_135
  · exact iw_137
theorem tk_7 : ∀ k, k < 6 → parseFieldDescriptor (tx_7 k).2.2.1 = some (ty_7 k) := by decide +kernel
theorem nk_7 : ∀ a, a < 6 → ∀ b, b < 6 → a ≠ b → (tx_7 a).2.1 ≠ (tx_7 b).2.1 := by decide +kernel
theorem ly_8 : ∀ w ∈ u_ws "java/util/ArrayList" tx_8 3, w ∈ xv_T := by
  intro w hw
  obtain ⟨k, hk, rfl⟩ := List.mem_map.mp hw
  have hk := List.mem_range.mp hk
  rcases (show k = 0 ∨ k = 1 ∨ k = 2 by omega) with rfl | rfl | rfl
  · exact iw_70
  · exact iw_66
  · exact iw_68
theorem tk_8 : ∀ k, k < 3 → parseFieldDescriptor (tx_8 k).2.2.1 = some (ty_8 k) := by decide +kernel
theorem nk_8 : ∀ a, a < 3 → ∀ b, b < 3 → a ≠ b → (tx_8 a).2.1 ≠ (tx_8 b).2.1 := by decide +kernel
theorem ly_9 : ∀ w ∈ u_ws "NotedVolumeModel" tx_9 28, w ∈ xv_T := by
  intro w hw
  obtain ⟨k, hk, rfl⟩ := List.mem_map.mp hw
  have hk := List.mem_range.mp hk
  rcases (show k = 0 ∨ k = 1 ∨ k = 2 ∨ k = 3 ∨ k = 4 ∨ k = 5 ∨ k = 6 ∨ k = 7 ∨ k = 8 ∨ k = 9 ∨ k = 10 ∨ k = 11 ∨ k = 12 ∨ k = 13 ∨ k = 14 ∨ k = 15 ∨ k = 16 ∨ k = 17 ∨ k = 18 ∨ k = 19 ∨ k = 20 ∨ k = 21 ∨ k = 22 ∨ k = 23 ∨ k = 24 ∨ k = 25 ∨ k = 26 ∨ k = 27 by omega) with rfl | rfl | rfl | rfl | rfl | rfl | rfl | rfl | rfl | rfl | rfl | rfl | rfl | rfl | rfl | rfl | rfl | rfl | rfl | rfl | rfl | rfl | rfl | rfl | rfl | rfl | rfl | rfl
  · exact iw_1114
  · exact iw_1116
  · exact iw_1118
  · exact iw_1120
  · exact iw_1122
  · exact iw_1124
  · exact iw_1126
  · exact iw_1128
  · exact iw_1130
  · exact iw_1132
  · exact iw_1134
  · exact iw_1136
  · exact iw_1138
  · exact iw_1140
  · exact iw_1142
  · exact iw_1144
  · exact iw_1146
  · exact iw_1148
  · exact iw_1150
  · exact iw_1152
  · exact iw_1154
  · exact iw_1156
  · exact iw_1158
  · exact iw_1160
  · exact iw_1162
  · exact iw_1164
  · exact iw_1166
  · exact iw_1168
theorem tk_9 : ∀ k, k < 28 → parseFieldDescriptor (tx_9 k).2.2.1 = some (ty_9 k) := by decide +kernel
theorem nk_9 : ∀ a, a < 28 → ∀ b, b < 28 → a ≠ b → (tx_9 a).2.1 ≠ (tx_9 b).2.1 := by decide +kernel
theorem ly_10 : ∀ w ∈ u_ws "java/lang/IllegalStateException" tx_10 0, w ∈ xv_T := by
  intro w hw
  obtain ⟨k, hk, rfl⟩ := List.mem_map.mp hw
  have hk := List.mem_range.mp hk
  omega
theorem tk_10 : ∀ k, k < 0 → parseFieldDescriptor (tx_10 k).2.2.1 = some (ty_10 k) := by decide +kernel
theorem nk_10 : ∀ a, a < 0 → ∀ b, b < 0 → a ≠ b → (tx_10 a).2.1 ≠ (tx_10 b).2.1 := by decide +kernel
theorem ly_11 : ∀ w ∈ u_ws "java/lang/IllegalArgumentException" tx_11 0, w ∈ xv_T := by
  intro w hw
  obtain ⟨k, hk, rfl⟩ := List.mem_map.mp hw
  have hk := List.mem_range.mp hk
  omega
theorem tk_11 : ∀ k, k < 0 → parseFieldDescriptor (tx_11 k).2.2.1 = some (ty_11 k) := by decide +kernel
theorem nk_11 : ∀ a, a < 0 → ∀ b, b < 0 → a ≠ b → (tx_11 a).2.1 ≠ (tx_11 b).2.1 := by decide +kernel
theorem ly_12 : ∀ w ∈ u_ws "java/util/NoSuchElementException" tx_12 0, w ∈ xv_T := by
  intro w hw
  obtain ⟨k, hk, rfl⟩ := List.mem_map.mp hw
  have hk := List.mem_range.mp hk
  omega
theorem tk_12 : ∀ k, k < 0 → parseFieldDescriptor (tx_12 k).2.2.1 = some (ty_12 k) := by decide +kernel
theorem nk_12 : ∀ a, a < 0 → ∀ b, b < 0 → a ≠ b → (tx_12 a).2.1 ≠ (tx_12 b).2.1 := by decide +kernel
theorem ly_13 : ∀ w ∈ u_ws "java/lang/UnsupportedOperationException" tx_13 0, w ∈ xv_T := by
  intro w hw
  obtain ⟨k, hk, rfl⟩ := List.mem_map.mp hw
  have hk := List.mem_range.mp hk
  omega
theorem tk_13 : ∀ k, k < 0 → parseFieldDescriptor (tx_13 k).2.2.1 = some (ty_13 k) := by decide +kernel
theorem nk_13 : ∀ a, a < 0 → ∀ b, b < 0 → a ≠ b → (tx_13 a).2.1 ≠ (tx_13 b).2.1 := by decide +kernel
theorem ly_14 : ∀ w ∈ u_ws "java/lang/IndexOutOfBoundsException" tx_14 0, w ∈ xv_T := by
  intro w hw
  obtain ⟨k, hk, rfl⟩ := List.mem_map.mp hw
  have hk := List.mem_range.mp hk
  omega
theorem tk_14 : ∀ k, k < 0 → parseFieldDescriptor (tx_14 k).2.2.1 = some (ty_14 k) := by decide +kernel
theorem nk_14 : ∀ a, a < 0 → ∀ b, b < 0 → a ≠ b → (tx_14 a).2.1 ≠ (tx_14 b).2.1 := by decide +kernel
def mm_C_init : xa_M := (⟨"java/util/AbstractCollection", "<init>", "()V"⟩, prog_29_method_1_code, 1, none, [])
theorem ok_C_init : xa_O mm_C_init := ⟨by decide, Or.inr ⟨rfl, iw_57⟩, iw_3, by decide, by decide⟩
def mm_B_init : xa_M := (⟨"java/util/AbstractList", "<init>", "()V"⟩, prog_30_method_1_code, 1, none, [])
theorem ok_B_init : xa_O mm_B_init := ⟨by decide, Or.inr ⟨rfl, iw_54⟩, iw_4, by decide, by decide⟩
def mm_A_init : xa_M := (⟨"java/util/ArrayList", "<init>", "()V"⟩, prog_31_method_2_code, 1, none, [])
theorem ok_A_init : xa_O mm_A_init := ⟨by decide, Or.inr ⟨rfl, iw_51⟩, iw_5, by decide, by decide⟩
def mm_A_add0 : xa_M := (⟨"java/util/ArrayList", "add", "(ILjava/lang/Object;)V"⟩, prog_31_method_26_code, 5, none, [])
theorem ok_A_add0 : xa_O mm_A_add0 := ⟨by decide, Or.inr ⟨rfl, iw_608⟩, iw_5, by decide, by decide⟩
def mm_A_add1 : xa_M := (⟨"java/util/ArrayList", "add", "(Ljava/lang/Object;)Z"⟩, prog_31_method_25_code, 2, (some .boolean), [])
theorem ok_A_add1 : xa_O mm_A_add1 := ⟨by decide, Or.inr ⟨rfl, iw_289⟩, iw_5, by decide, by decide⟩
def mm_A_add2 : xa_M := (⟨"java/util/ArrayList", "add", "(Ljava/lang/Object;[Ljava/lang/Object;I)V"⟩, prog_31_method_24_code, 4, none, [])
theorem ok_A_add2 : xa_O mm_A_add2 := ⟨by decide, Or.inr ⟨rfl, iw_293⟩, iw_5, by decide, by decide⟩
def mm_A_clear : xa_M := (⟨"java/util/ArrayList", "clear", "()V"⟩, prog_31_method_40_code, 4, none, [])
theorem ok_A_clear : xa_O mm_A_clear := ⟨by decide, Or.inr ⟨rfl, iw_234⟩, iw_5, by decide, by decide⟩
def mm_A_elementData : xa_M := (⟨"java/util/ArrayList", "elementData", "(I)Ljava/lang/Object;"⟩, prog_31_method_18_code, 2, (some (.object "java/lang/Object")), [])
theorem ok_A_elementData : xa_O mm_A_elementData := ⟨by decide, Or.inr ⟨rfl, iw_197⟩, iw_5, by decide, by decide⟩
def mm_A_fastRemove : xa_M := (⟨"java/util/ArrayList", "fastRemove", "([Ljava/lang/Object;I)V"⟩, prog_31_method_39_code, 4, none, [])
theorem ok_A_fastRemove : xa_O mm_A_fastRemove := ⟨by decide, Or.inr ⟨rfl, iw_259⟩, iw_5, by decide, by decide⟩
def mm_A_get : xa_M := (⟨"java/util/ArrayList", "get", "(I)Ljava/lang/Object;"⟩, prog_31_method_20_code, 2, (some (.object "java/lang/Object")), [])
theorem ok_A_get : xa_O mm_A_get := ⟨by decide, Or.inr ⟨rfl, iw_187⟩, iw_5, by decide, by decide⟩
def mm_A_grow0 : xa_M := (⟨"java/util/ArrayList", "grow", "()[Ljava/lang/Object;"⟩, prog_31_method_7_code, 1, (some (.array (.object "java/lang/Object"))), [])
theorem ok_A_grow0 : xa_O mm_A_grow0 := ⟨by decide, Or.inr ⟨rfl, iw_297⟩, iw_5, by decide, by decide⟩
def mm_A_grow1 : xa_M := (⟨"java/util/ArrayList", "grow", "(I)[Ljava/lang/Object;"⟩, prog_31_method_6_code, 4, (some (.array (.object "java/lang/Object"))), [])
theorem ok_A_grow1 : xa_O mm_A_grow1 := ⟨by decide, Or.inr ⟨rfl, iw_301⟩, iw_5, by decide, by decide⟩
def mm_A_isEmpty : xa_M := (⟨"java/util/ArrayList", "isEmpty", "()Z"⟩, prog_31_method_9_code, 1, (some .boolean), [])
theorem ok_A_isEmpty : xa_O mm_A_isEmpty := ⟨by decide, Or.inr ⟨rfl, iw_355⟩, iw_5, by decide, by decide⟩
def mm_A_rangeCheckForAdd : xa_M := (⟨"java/util/ArrayList", "rangeCheckForAdd", "(I)V"⟩, prog_31_method_45_code, 2, none, [])
theorem ok_A_rangeCheckForAdd : xa_O mm_A_rangeCheckForAdd := ⟨by decide, Or.inr ⟨rfl, iw_612⟩, iw_5, by decide, by decide⟩
def mm_A_remove : xa_M := (⟨"java/util/ArrayList", "remove", "(I)Ljava/lang/Object;"⟩, prog_31_method_29_code, 4, (some (.object "java/lang/Object")), [])
theorem ok_A_remove : xa_O mm_A_remove := ⟨by decide, Or.inr ⟨rfl, iw_255⟩, iw_5, by decide, by decide⟩
def mm_A_set : xa_M := (⟨"java/util/ArrayList", "set", "(ILjava/lang/Object;)Ljava/lang/Object;"⟩, prog_31_method_23_code, 4, (some (.object "java/lang/Object")), [])
theorem ok_A_set : xa_O mm_A_set := ⟨by decide, Or.inr ⟨rfl, iw_604⟩, iw_5, by decide, by decide⟩
def mm_A_size : xa_M := (⟨"java/util/ArrayList", "size", "()I"⟩, prog_31_method_8_code, 1, (some .int), [])
theorem ok_A_size : xa_O mm_A_size := ⟨by decide, Or.inr ⟨rfl, iw_174⟩, iw_5, by decide, by decide⟩
def mm_J_copyOf1 : xa_M := (⟨"java/util/Arrays", "copyOf", "([Ljava/lang/Object;I)[Ljava/lang/Object;"⟩, prog_32_method_119_code, 2, (some (.array (.object "java/lang/Object"))), [])
theorem ok_J_copyOf1 : xa_O mm_J_copyOf1 := ⟨by decide, Or.inr ⟨rfl, iw_314⟩, iw_25, by decide, by decide⟩
def mm_J_copyOf2 : xa_M := (⟨"java/util/Arrays", "copyOf", "([Ljava/lang/Object;ILjava/lang/Class;)[Ljava/lang/Object;"⟩, prog_32_method_120_code, 4, (some (.array (.object "java/lang/Object"))), [])
theorem ok_J_copyOf2 : xa_O mm_J_copyOf2 := ⟨by decide, Or.inr ⟨rfl, iw_338⟩, iw_25, by decide, by decide⟩
def mm_O_checkIndex : xa_M := (⟨"java/util/Objects", "checkIndex", "(II)I"⟩, prog_36_method_17_code, 2, (some .int), [])
theorem ok_O_checkIndex : xa_O mm_O_checkIndex := ⟨by decide, Or.inr ⟨rfl, iw_190⟩, iw_15, by decide, by decide⟩
def mm_Q_newLength : xa_M := (⟨"jdk/internal/util/ArraysSupport", "newLength", "(III)I"⟩, prog_39_method_27_code, 4, (some .int), [])
theorem ok_Q_newLength : xa_O mm_Q_newLength := ⟨by decide, Or.inr ⟨rfl, iw_304⟩, iw_23, by decide, by decide⟩
def mm_P_checkIndex : xa_M := (⟨"jdk/internal/util/Preconditions", "checkIndex", "(IILjava/util/function/BiFunction;)I"⟩, prog_40_method_11_code, 3, (some .int), [])
theorem ok_P_checkIndex : xa_O mm_P_checkIndex := ⟨by decide, Or.inr ⟨rfl, iw_193⟩, iw_16, by decide, by decide⟩
theorem dd_C_init_0 : decode mm_C_init.2.1 0 = .ok (.aload_n 0, 1) := by decide +kernel
theorem dd_C_init_1 : decode mm_C_init.2.1 1 = .ok (.invokespecial 1, 3) := by decide +kernel
theorem dd_C_init_4 : decode mm_C_init.2.1 4 = .ok (.return_, 1) := by decide +kernel
theorem dd_B_init_0 : decode mm_B_init.2.1 0 = .ok (.aload_n 0, 1) := by decide +kernel
theorem dd_B_init_1 : decode mm_B_init.2.1 1 = .ok (.invokespecial 1, 3) := by decide +kernel
theorem dd_B_init_4 : decode mm_B_init.2.1 4 = .ok (.aload_n 0, 1) := by decide +kernel
theorem dd_B_init_5 : decode mm_B_init.2.1 5 = .ok (.iconst 0, 1) := by decide +kernel
theorem dd_B_init_6 : decode mm_B_init.2.1 6 = .ok (.putfield 7, 3) := by decide +kernel
theorem dd_B_init_9 : decode mm_B_init.2.1 9 = .ok (.return_, 1) := by decide +kernel
theorem dd_A_init_0 : decode mm_A_init.2.1 0 = .ok (.aload_n 0, 1) := by decide +kernel
theorem dd_A_init_1 : decode mm_A_init.2.1 1 = .ok (.invokespecial 1, 3) := by decide +kernel
theorem dd_A_init_4 : decode mm_A_init.2.1 4 = .ok (.aload_n 0, 1) := by decide +kernel
theorem dd_A_init_5 : decode mm_A_init.2.1 5 = .ok (.getstatic 39, 3) := by decide +kernel
theorem dd_A_init_8 : decode mm_A_init.2.1 8 = .ok (.putfield 9, 3) := by decide +kernel
theorem dd_A_init_11 : decode mm_A_init.2.1 11 = .ok (.return_, 1) := by decide +kernel
theorem dd_A_add0_0 : decode mm_A_add0.2.1 0 = .ok (.aload_n 0, 1) := by decide +kernel
theorem dd_A_add0_1 : decode mm_A_add0.2.1 1 = .ok (.iload_n 1, 1) := by decide +kernel
theorem dd_A_add0_2 : decode mm_A_add0.2.1 2 = .ok (.invokevirtual 135, 3) := by decide +kernel
theorem dd_A_add0_5 : decode mm_A_add0.2.1 5 = .ok (.aload_n 0, 1) := by decide +kernel
theorem dd_A_add0_6 : decode mm_A_add0.2.1 6 = .ok (.dup, 1) := by decide +kernel
theorem dd_A_add0_7 : decode mm_A_add0.2.1 7 = .ok (.getfield 63, 3) := by decide +kernel
theorem dd_A_add0_10 : decode mm_A_add0.2.1 10 = .ok (.iconst 1, 1) := by decide +kernel
theorem dd_A_add0_11 : decode mm_A_add0.2.1 11 = .ok (.iadd, 1) := by decide +kernel
theorem dd_A_add0_12 : decode mm_A_add0.2.1 12 = .ok (.putfield 63, 3) := by decide +kernel
theorem dd_A_add0_15 : decode mm_A_add0.2.1 15 = .ok (.aload_n 0, 1) := by decide +kernel
theorem dd_A_add0_16 : decode mm_A_add0.2.1 16 = .ok (.getfield 48, 3) := by decide +kernel
theorem dd_A_add0_19 : decode mm_A_add0.2.1 19 = .ok (.dup, 1) := by decide +kernel
theorem dd_A_add0_20 : decode mm_A_add0.2.1 20 = .ok (.istore_n 3, 1) := by decide +kernel
theorem dd_A_add0_21 : decode mm_A_add0.2.1 21 = .ok (.aload_n 0, 1) := by decide +kernel
theorem dd_A_add0_22 : decode mm_A_add0.2.1 22 = .ok (.getfield 9, 3) := by decide +kernel
theorem dd_A_add0_25 : decode mm_A_add0.2.1 25 = .ok (.dup, 1) := by decide +kernel
theorem dd_A_add0_26 : decode mm_A_add0.2.1 26 = .ok (.astore 4, 2) := by decide +kernel
theorem dd_A_add0_28 : decode mm_A_add0.2.1 28 = .ok (.arraylength, 1) := by decide +kernel
theorem dd_A_add0_29 : decode mm_A_add0.2.1 29 = .ok (.if_icmp .ne 9, 3) := by decide +kernel
theorem dd_A_add0_32 : decode mm_A_add0.2.1 32 = .ok (.aload_n 0, 1) := by decide +kernel
theorem dd_A_add0_33 : decode mm_A_add0.2.1 33 = .ok (.invokevirtual 129, 3) := by decide +kernel
theorem dd_A_add0_36 : decode mm_A_add0.2.1 36 = .ok (.astore 4, 2) := by decide +kernel
theorem dd_A_add0_38 : decode mm_A_add0.2.1 38 = .ok (.aload 4, 2) := by decide +kernel
theorem dd_A_add0_40 : decode mm_A_add0.2.1 40 = .ok (.iload_n 1, 1) := by decide +kernel
theorem dd_A_add0_41 : decode mm_A_add0.2.1 41 = .ok (.aload 4, 2) := by decide +kernel
theorem dd_A_add0_43 : decode mm_A_add0.2.1 43 = .ok (.iload_n 1, 1) := by decide +kernel
theorem dd_A_add0_44 : decode mm_A_add0.2.1 44 = .ok (.iconst 1, 1) := by decide +kernel
theorem dd_A_add0_45 : decode mm_A_add0.2.1 45 = .ok (.iadd, 1) := by decide +kernel
theorem dd_A_add0_46 : decode mm_A_add0.2.1 46 = .ok (.iload_n 3, 1) := by decide +kernel
theorem dd_A_add0_47 : decode mm_A_add0.2.1 47 = .ok (.iload_n 1, 1) := by decide +kernel
theorem dd_A_add0_48 : decode mm_A_add0.2.1 48 = .ok (.isub, 1) := by decide +kernel
theorem dd_A_add0_49 : decode mm_A_add0.2.1 49 = .ok (.invokestatic 112, 3) := by decide +kernel
theorem dd_A_add0_52 : decode mm_A_add0.2.1 52 = .ok (.aload 4, 2) := by decide +kernel
theorem dd_A_add0_54 : decode mm_A_add0.2.1 54 = .ok (.iload_n 1, 1) := by decide +kernel
theorem dd_A_add0_55 : decode mm_A_add0.2.1 55 = .ok (.aload_n 2, 1) := by decide +kernel
theorem dd_A_add0_56 : decode mm_A_add0.2.1 56 = .ok (.aastore, 1) := by decide +kernel
theorem dd_A_add0_57 : decode mm_A_add0.2.1 57 = .ok (.aload_n 0, 1) := by decide +kernel
theorem dd_A_add0_58 : decode mm_A_add0.2.1 58 = .ok (.iload_n 3, 1) := by decide +kernel
theorem dd_A_add0_59 : decode mm_A_add0.2.1 59 = .ok (.iconst 1, 1) := by decide +kernel
theorem dd_A_add0_60 : decode mm_A_add0.2.1 60 = .ok (.iadd, 1) := by decide +kernel
theorem dd_A_add0_61 : decode mm_A_add0.2.1 61 = .ok (.putfield 48, 3) := by decide +kernel
theorem dd_A_add0_64 : decode mm_A_add0.2.1 64 = .ok (.return_, 1) := by decide +kernel
theorem dd_A_add1_0 : decode mm_A_add1.2.1 0 = .ok (.aload_n 0, 1) := by decide +kernel
theorem dd_A_add1_1 : decode mm_A_add1.2.1 1 = .ok (.dup, 1) := by decide +kernel
theorem dd_A_add1_2 : decode mm_A_add1.2.1 2 = .ok (.getfield 63, 3) := by decide +kernel
theorem dd_A_add1_5 : decode mm_A_add1.2.1 5 = .ok (.iconst 1, 1) := by decide +kernel
theorem dd_A_add1_6 : decode mm_A_add1.2.1 6 = .ok (.iadd, 1) := by decide +kernel
theorem dd_A_add1_7 : decode mm_A_add1.2.1 7 = .ok (.putfield 63, 3) := by decide +kernel
theorem dd_A_add1_10 : decode mm_A_add1.2.1 10 = .ok (.aload_n 0, 1) := by decide +kernel
theorem dd_A_add1_11 : decode mm_A_add1.2.1 11 = .ok (.aload_n 1, 1) := by decide +kernel
theorem dd_A_add1_12 : decode mm_A_add1.2.1 12 = .ok (.aload_n 0, 1) := by decide +kernel
theorem dd_A_add1_13 : decode mm_A_add1.2.1 13 = .ok (.getfield 9, 3) := by decide +kernel
theorem dd_A_add1_16 : decode mm_A_add1.2.1 16 = .ok (.aload_n 0, 1) := by decide +kernel
theorem dd_A_add1_17 : decode mm_A_add1.2.1 17 = .ok (.getfield 48, 3) := by decide +kernel
theorem dd_A_add1_20 : decode mm_A_add1.2.1 20 = .ok (.invokevirtual 131, 3) := by decide +kernel
theorem dd_A_add1_23 : decode mm_A_add1.2.1 23 = .ok (.iconst 1, 1) := by decide +kernel
theorem dd_A_add1_24 : decode mm_A_add1.2.1 24 = .ok (.ireturn, 1) := by decide +kernel
theorem dd_A_add2_0 : decode mm_A_add2.2.1 0 = .ok (.iload_n 3, 1) := by decide +kernel
theorem dd_A_add2_1 : decode mm_A_add2.2.1 1 = .ok (.aload_n 2, 1) := by decide +kernel
theorem dd_A_add2_2 : decode mm_A_add2.2.1 2 = .ok (.arraylength, 1) := by decide +kernel
theorem dd_A_add2_3 : decode mm_A_add2.2.1 3 = .ok (.if_icmp .ne 8, 3) := by decide +kernel
theorem dd_A_add2_6 : decode mm_A_add2.2.1 6 = .ok (.aload_n 0, 1) := by decide +kernel
theorem dd_A_add2_7 : decode mm_A_add2.2.1 7 = .ok (.invokevirtual 129, 3) := by decide +kernel
theorem dd_A_add2_10 : decode mm_A_add2.2.1 10 = .ok (.astore_n 2, 1) := by decide +kernel
theorem dd_A_add2_11 : decode mm_A_add2.2.1 11 = .ok (.aload_n 2, 1) := by decide +kernel
theorem dd_A_add2_12 : decode mm_A_add2.2.1 12 = .ok (.iload_n 3, 1) := by decide +kernel
theorem dd_A_add2_13 : decode mm_A_add2.2.1 13 = .ok (.aload_n 1, 1) := by decide +kernel
theorem dd_A_add2_14 : decode mm_A_add2.2.1 14 = .ok (.aastore, 1) := by decide +kernel
theorem dd_A_add2_15 : decode mm_A_add2.2.1 15 = .ok (.aload_n 0, 1) := by decide +kernel
theorem dd_A_add2_16 : decode mm_A_add2.2.1 16 = .ok (.iload_n 3, 1) := by decide +kernel
theorem dd_A_add2_17 : decode mm_A_add2.2.1 17 = .ok (.iconst 1, 1) := by decide +kernel
theorem dd_A_add2_18 : decode mm_A_add2.2.1 18 = .ok (.iadd, 1) := by decide +kernel
theorem dd_A_add2_19 : decode mm_A_add2.2.1 19 = .ok (.putfield 48, 3) := by decide +kernel
theorem dd_A_add2_22 : decode mm_A_add2.2.1 22 = .ok (.return_, 1) := by decide +kernel
theorem dd_A_clear_0 : decode mm_A_clear.2.1 0 = .ok (.aload_n 0, 1) := by decide +kernel
theorem dd_A_clear_1 : decode mm_A_clear.2.1 1 = .ok (.dup, 1) := by decide +kernel
theorem dd_A_clear_2 : decode mm_A_clear.2.1 2 = .ok (.getfield 63, 3) := by decide +kernel
theorem dd_A_clear_5 : decode mm_A_clear.2.1 5 = .ok (.iconst 1, 1) := by decide +kernel
theorem dd_A_clear_6 : decode mm_A_clear.2.1 6 = .ok (.iadd, 1) := by decide +kernel
theorem dd_A_clear_7 : decode mm_A_clear.2.1 7 = .ok (.putfield 63, 3) := by decide +kernel
theorem dd_A_clear_10 : decode mm_A_clear.2.1 10 = .ok (.aload_n 0, 1) := by decide +kernel
theorem dd_A_clear_11 : decode mm_A_clear.2.1 11 = .ok (.getfield 9, 3) := by decide +kernel
theorem dd_A_clear_14 : decode mm_A_clear.2.1 14 = .ok (.astore_n 1, 1) := by decide +kernel
theorem dd_A_clear_15 : decode mm_A_clear.2.1 15 = .ok (.aload_n 0, 1) := by decide +kernel
theorem dd_A_clear_16 : decode mm_A_clear.2.1 16 = .ok (.getfield 48, 3) := by decide +kernel
theorem dd_A_clear_19 : decode mm_A_clear.2.1 19 = .ok (.istore_n 2, 1) := by decide +kernel
theorem dd_A_clear_20 : decode mm_A_clear.2.1 20 = .ok (.aload_n 0, 1) := by decide +kernel
theorem dd_A_clear_21 : decode mm_A_clear.2.1 21 = .ok (.iconst 0, 1) := by decide +kernel
theorem dd_A_clear_22 : decode mm_A_clear.2.1 22 = .ok (.dup_x1, 1) := by decide +kernel
theorem dd_A_clear_23 : decode mm_A_clear.2.1 23 = .ok (.putfield 48, 3) := by decide +kernel
theorem dd_A_clear_26 : decode mm_A_clear.2.1 26 = .ok (.istore_n 3, 1) := by decide +kernel
theorem dd_A_clear_27 : decode mm_A_clear.2.1 27 = .ok (.iload_n 3, 1) := by decide +kernel
theorem dd_A_clear_28 : decode mm_A_clear.2.1 28 = .ok (.iload_n 2, 1) := by decide +kernel
theorem dd_A_clear_29 : decode mm_A_clear.2.1 29 = .ok (.if_icmp .ge 13, 3) := by decide +kernel
theorem dd_A_clear_32 : decode mm_A_clear.2.1 32 = .ok (.aload_n 1, 1) := by decide +kernel
theorem dd_A_clear_33 : decode mm_A_clear.2.1 33 = .ok (.iload_n 3, 1) := by decide +kernel
theorem dd_A_clear_34 : decode mm_A_clear.2.1 34 = .ok (.aconst_null, 1) := by decide +kernel
theorem dd_A_clear_35 : decode mm_A_clear.2.1 35 = .ok (.aastore, 1) := by decide +kernel
theorem dd_A_clear_36 : decode mm_A_clear.2.1 36 = .ok (.iinc 3 1, 3) := by decide +kernel
theorem dd_A_clear_39 : decode mm_A_clear.2.1 39 = .ok (.goto (-12), 3) := by decide +kernel
theorem dd_A_clear_42 : decode mm_A_clear.2.1 42 = .ok (.return_, 1) := by decide +kernel
theorem dd_A_elementData_0 : decode mm_A_elementData.2.1 0 = .ok (.aload_n 0, 1) := by decide +kernel
theorem dd_A_elementData_1 : decode mm_A_elementData.2.1 1 = .ok (.getfield 9, 3) := by decide +kernel
theorem dd_A_elementData_4 : decode mm_A_elementData.2.1 4 = .ok (.iload_n 1, 1) := by decide +kernel
theorem dd_A_elementData_5 : decode mm_A_elementData.2.1 5 = .ok (.aaload, 1) := by decide +kernel
theorem dd_A_elementData_6 : decode mm_A_elementData.2.1 6 = .ok (.areturn, 1) := by decide +kernel
theorem dd_A_fastRemove_0 : decode mm_A_fastRemove.2.1 0 = .ok (.aload_n 0, 1) := by decide +kernel
theorem dd_A_fastRemove_1 : decode mm_A_fastRemove.2.1 1 = .ok (.dup, 1) := by decide +kernel
theorem dd_A_fastRemove_2 : decode mm_A_fastRemove.2.1 2 = .ok (.getfield 63, 3) := by decide +kernel
theorem dd_A_fastRemove_5 : decode mm_A_fastRemove.2.1 5 = .ok (.iconst 1, 1) := by decide +kernel
theorem dd_A_fastRemove_6 : decode mm_A_fastRemove.2.1 6 = .ok (.iadd, 1) := by decide +kernel
theorem dd_A_fastRemove_7 : decode mm_A_fastRemove.2.1 7 = .ok (.putfield 63, 3) := by decide +kernel
theorem dd_A_fastRemove_10 : decode mm_A_fastRemove.2.1 10 = .ok (.aload_n 0, 1) := by decide +kernel
theorem dd_A_fastRemove_11 : decode mm_A_fastRemove.2.1 11 = .ok (.getfield 48, 3) := by decide +kernel
theorem dd_A_fastRemove_14 : decode mm_A_fastRemove.2.1 14 = .ok (.iconst 1, 1) := by decide +kernel
theorem dd_A_fastRemove_15 : decode mm_A_fastRemove.2.1 15 = .ok (.isub, 1) := by decide +kernel
theorem dd_A_fastRemove_16 : decode mm_A_fastRemove.2.1 16 = .ok (.dup, 1) := by decide +kernel
theorem dd_A_fastRemove_17 : decode mm_A_fastRemove.2.1 17 = .ok (.istore_n 3, 1) := by decide +kernel
theorem dd_A_fastRemove_18 : decode mm_A_fastRemove.2.1 18 = .ok (.iload_n 2, 1) := by decide +kernel
theorem dd_A_fastRemove_19 : decode mm_A_fastRemove.2.1 19 = .ok (.if_icmp .le 15, 3) := by decide +kernel
theorem dd_A_fastRemove_22 : decode mm_A_fastRemove.2.1 22 = .ok (.aload_n 1, 1) := by decide +kernel
theorem dd_A_fastRemove_23 : decode mm_A_fastRemove.2.1 23 = .ok (.iload_n 2, 1) := by decide +kernel
theorem dd_A_fastRemove_24 : decode mm_A_fastRemove.2.1 24 = .ok (.iconst 1, 1) := by decide +kernel
theorem dd_A_fastRemove_25 : decode mm_A_fastRemove.2.1 25 = .ok (.iadd, 1) := by decide +kernel
theorem dd_A_fastRemove_26 : decode mm_A_fastRemove.2.1 26 = .ok (.aload_n 1, 1) := by decide +kernel
theorem dd_A_fastRemove_27 : decode mm_A_fastRemove.2.1 27 = .ok (.iload_n 2, 1) := by decide +kernel
theorem dd_A_fastRemove_28 : decode mm_A_fastRemove.2.1 28 = .ok (.iload_n 3, 1) := by decide +kernel
theorem dd_A_fastRemove_29 : decode mm_A_fastRemove.2.1 29 = .ok (.iload_n 2, 1) := by decide +kernel
theorem dd_A_fastRemove_30 : decode mm_A_fastRemove.2.1 30 = .ok (.isub, 1) := by decide +kernel
theorem dd_A_fastRemove_31 : decode mm_A_fastRemove.2.1 31 = .ok (.invokestatic 112, 3) := by decide +kernel
theorem dd_A_fastRemove_34 : decode mm_A_fastRemove.2.1 34 = .ok (.aload_n 1, 1) := by decide +kernel
theorem dd_A_fastRemove_35 : decode mm_A_fastRemove.2.1 35 = .ok (.aload_n 0, 1) := by decide +kernel
theorem dd_A_fastRemove_36 : decode mm_A_fastRemove.2.1 36 = .ok (.iload_n 3, 1) := by decide +kernel
theorem dd_A_fastRemove_37 : decode mm_A_fastRemove.2.1 37 = .ok (.dup_x1, 1) := by decide +kernel
theorem dd_A_fastRemove_38 : decode mm_A_fastRemove.2.1 38 = .ok (.putfield 48, 3) := by decide +kernel
theorem dd_A_fastRemove_41 : decode mm_A_fastRemove.2.1 41 = .ok (.aconst_null, 1) := by decide +kernel
theorem dd_A_fastRemove_42 : decode mm_A_fastRemove.2.1 42 = .ok (.aastore, 1) := by decide +kernel
theorem dd_A_fastRemove_43 : decode mm_A_fastRemove.2.1 43 = .ok (.return_, 1) := by decide +kernel
theorem dd_A_get_0 : decode mm_A_get.2.1 0 = .ok (.iload_n 1, 1) := by decide +kernel
theorem dd_A_get_1 : decode mm_A_get.2.1 1 = .ok (.aload_n 0, 1) := by decide +kernel
theorem dd_A_get_2 : decode mm_A_get.2.1 2 = .ok (.getfield 48, 3) := by decide +kernel
theorem dd_A_get_5 : decode mm_A_get.2.1 5 = .ok (.invokestatic 118, 3) := by decide +kernel
theorem dd_A_get_8 : decode mm_A_get.2.1 8 = .ok (.pop, 1) := by decide +kernel
theorem dd_A_get_9 : decode mm_A_get.2.1 9 = .ok (.aload_n 0, 1) := by decide +kernel
theorem dd_A_get_10 : decode mm_A_get.2.1 10 = .ok (.iload_n 1, 1) := by decide +kernel
theorem dd_A_get_11 : decode mm_A_get.2.1 11 = .ok (.invokevirtual 123, 3) := by decide +kernel
theorem dd_A_get_14 : decode mm_A_get.2.1 14 = .ok (.areturn, 1) := by decide +kernel
theorem dd_A_grow0_0 : decode mm_A_grow0.2.1 0 = .ok (.aload_n 0, 1) := by decide +kernel
theorem dd_A_grow0_1 : decode mm_A_grow0.2.1 1 = .ok (.aload_n 0, 1) := by decide +kernel
theorem dd_A_grow0_2 : decode mm_A_grow0.2.1 2 = .ok (.getfield 48, 3) := by decide +kernel
theorem dd_A_grow0_5 : decode mm_A_grow0.2.1 5 = .ok (.iconst 1, 1) := by decide +kernel
theorem dd_A_grow0_6 : decode mm_A_grow0.2.1 6 = .ok (.iadd, 1) := by decide +kernel
theorem dd_A_grow0_7 : decode mm_A_grow0.2.1 7 = .ok (.invokevirtual 69, 3) := by decide +kernel
theorem dd_A_grow0_10 : decode mm_A_grow0.2.1 10 = .ok (.areturn, 1) := by decide +kernel
theorem dd_A_grow1_0 : decode mm_A_grow1.2.1 0 = .ok (.aload_n 0, 1) := by decide +kernel
theorem dd_A_grow1_1 : decode mm_A_grow1.2.1 1 = .ok (.getfield 9, 3) := by decide +kernel
theorem dd_A_grow1_4 : decode mm_A_grow1.2.1 4 = .ok (.arraylength, 1) := by decide +kernel
theorem dd_A_grow1_5 : decode mm_A_grow1.2.1 5 = .ok (.istore_n 2, 1) := by decide +kernel
theorem dd_A_grow1_6 : decode mm_A_grow1.2.1 6 = .ok (.iload_n 2, 1) := by decide +kernel
theorem dd_A_grow1_7 : decode mm_A_grow1.2.1 7 = .ok (.ifCond .gt 13, 3) := by decide +kernel
theorem dd_A_grow1_10 : decode mm_A_grow1.2.1 10 = .ok (.aload_n 0, 1) := by decide +kernel
theorem dd_A_grow1_11 : decode mm_A_grow1.2.1 11 = .ok (.getfield 9, 3) := by decide +kernel
theorem dd_A_grow1_14 : decode mm_A_grow1.2.1 14 = .ok (.getstatic 39, 3) := by decide +kernel
theorem dd_A_grow1_17 : decode mm_A_grow1.2.1 17 = .ok (.if_acmp .eq 28, 3) := by decide +kernel
theorem dd_A_grow1_20 : decode mm_A_grow1.2.1 20 = .ok (.iload_n 2, 1) := by decide +kernel
theorem dd_A_grow1_21 : decode mm_A_grow1.2.1 21 = .ok (.iload_n 1, 1) := by decide +kernel
theorem dd_A_grow1_22 : decode mm_A_grow1.2.1 22 = .ok (.iload_n 2, 1) := by decide +kernel
theorem dd_A_grow1_23 : decode mm_A_grow1.2.1 23 = .ok (.isub, 1) := by decide +kernel
theorem dd_A_grow1_24 : decode mm_A_grow1.2.1 24 = .ok (.iload_n 2, 1) := by decide +kernel
theorem dd_A_grow1_25 : decode mm_A_grow1.2.1 25 = .ok (.iconst 1, 1) := by decide +kernel
theorem dd_A_grow1_26 : decode mm_A_grow1.2.1 26 = .ok (.ishr, 1) := by decide +kernel
theorem dd_A_grow1_27 : decode mm_A_grow1.2.1 27 = .ok (.invokestatic 73, 3) := by decide +kernel
theorem dd_A_grow1_30 : decode mm_A_grow1.2.1 30 = .ok (.istore_n 3, 1) := by decide +kernel
theorem dd_A_grow1_31 : decode mm_A_grow1.2.1 31 = .ok (.aload_n 0, 1) := by decide +kernel
theorem dd_A_grow1_32 : decode mm_A_grow1.2.1 32 = .ok (.aload_n 0, 1) := by decide +kernel
theorem dd_A_grow1_33 : decode mm_A_grow1.2.1 33 = .ok (.getfield 9, 3) := by decide +kernel
theorem dd_A_grow1_36 : decode mm_A_grow1.2.1 36 = .ok (.iload_n 3, 1) := by decide +kernel
theorem dd_A_grow1_37 : decode mm_A_grow1.2.1 37 = .ok (.invokestatic 66, 3) := by decide +kernel
theorem dd_A_grow1_40 : decode mm_A_grow1.2.1 40 = .ok (.dup_x1, 1) := by decide +kernel
theorem dd_A_grow1_41 : decode mm_A_grow1.2.1 41 = .ok (.putfield 9, 3) := by decide +kernel
theorem dd_A_grow1_44 : decode mm_A_grow1.2.1 44 = .ok (.areturn, 1) := by decide +kernel
theorem dd_A_grow1_45 : decode mm_A_grow1.2.1 45 = .ok (.aload_n 0, 1) := by decide +kernel
theorem dd_A_grow1_46 : decode mm_A_grow1.2.1 46 = .ok (.bipush 10, 2) := by decide +kernel
theorem dd_A_grow1_48 : decode mm_A_grow1.2.1 48 = .ok (.iload_n 1, 1) := by decide +kernel
theorem dd_A_grow1_49 : decode mm_A_grow1.2.1 49 = .ok (.invokestatic 79, 3) := by decide +kernel
theorem dd_A_grow1_52 : decode mm_A_grow1.2.1 52 = .ok (.anewarray 7, 3) := by decide +kernel
theorem dd_A_grow1_55 : decode mm_A_grow1.2.1 55 = .ok (.dup_x1, 1) := by decide +kernel
theorem dd_A_grow1_56 : decode mm_A_grow1.2.1 56 = .ok (.putfield 9, 3) := by decide +kernel
theorem dd_A_grow1_59 : decode mm_A_grow1.2.1 59 = .ok (.areturn, 1) := by decide +kernel
theorem dd_A_isEmpty_0 : decode mm_A_isEmpty.2.1 0 = .ok (.aload_n 0, 1) := by decide +kernel
theorem dd_A_isEmpty_1 : decode mm_A_isEmpty.2.1 1 = .ok (.getfield 48, 3) := by decide +kernel
theorem dd_A_isEmpty_4 : decode mm_A_isEmpty.2.1 4 = .ok (.ifCond .ne 7, 3) := by decide +kernel
theorem dd_A_isEmpty_7 : decode mm_A_isEmpty.2.1 7 = .ok (.iconst 1, 1) := by decide +kernel
theorem dd_A_isEmpty_8 : decode mm_A_isEmpty.2.1 8 = .ok (.goto 4, 3) := by decide +kernel
theorem dd_A_isEmpty_11 : decode mm_A_isEmpty.2.1 11 = .ok (.iconst 0, 1) := by decide +kernel
theorem dd_A_isEmpty_12 : decode mm_A_isEmpty.2.1 12 = .ok (.ireturn, 1) := by decide +kernel
theorem dd_A_rangeCheckForAdd_0 : decode mm_A_rangeCheckForAdd.2.1 0 = .ok (.iload_n 1, 1) := by decide +kernel
theorem dd_A_rangeCheckForAdd_1 : decode mm_A_rangeCheckForAdd.2.1 1 = .ok (.aload_n 0, 1) := by decide +kernel
theorem dd_A_rangeCheckForAdd_2 : decode mm_A_rangeCheckForAdd.2.1 2 = .ok (.getfield 48, 3) := by decide +kernel
theorem dd_A_rangeCheckForAdd_5 : decode mm_A_rangeCheckForAdd.2.1 5 = .ok (.if_icmp .gt 7, 3) := by decide +kernel
theorem dd_A_rangeCheckForAdd_8 : decode mm_A_rangeCheckForAdd.2.1 8 = .ok (.iload_n 1, 1) := by decide +kernel
theorem dd_A_rangeCheckForAdd_9 : decode mm_A_rangeCheckForAdd.2.1 9 = .ok (.ifCond .ge 16, 3) := by decide +kernel
theorem dd_A_rangeCheckForAdd_12 : decode mm_A_rangeCheckForAdd.2.1 12 = .ok (.new 187, 3) := by decide +kernel
theorem dd_A_rangeCheckForAdd_15 : decode mm_A_rangeCheckForAdd.2.1 15 = .ok (.dup, 1) := by decide +kernel
theorem dd_A_rangeCheckForAdd_16 : decode mm_A_rangeCheckForAdd.2.1 16 = .ok (.aload_n 0, 1) := by decide +kernel
theorem dd_A_rangeCheckForAdd_17 : decode mm_A_rangeCheckForAdd.2.1 17 = .ok (.iload_n 1, 1) := by decide +kernel
theorem dd_A_rangeCheckForAdd_18 : decode mm_A_rangeCheckForAdd.2.1 18 = .ok (.invokevirtual 198, 3) := by decide +kernel
theorem dd_A_rangeCheckForAdd_21 : decode mm_A_rangeCheckForAdd.2.1 21 = .ok (.invokespecial 193, 3) := by decide +kernel
theorem dd_A_rangeCheckForAdd_24 : decode mm_A_rangeCheckForAdd.2.1 24 = .ok (.athrow, 1) := by decide +kernel
theorem dd_A_rangeCheckForAdd_25 : decode mm_A_rangeCheckForAdd.2.1 25 = .ok (.return_, 1) := by decide +kernel
theorem dd_A_remove_0 : decode mm_A_remove.2.1 0 = .ok (.iload_n 1, 1) := by decide +kernel
theorem dd_A_remove_1 : decode mm_A_remove.2.1 1 = .ok (.aload_n 0, 1) := by decide +kernel
theorem dd_A_remove_2 : decode mm_A_remove.2.1 2 = .ok (.getfield 48, 3) := by decide +kernel
theorem dd_A_remove_5 : decode mm_A_remove.2.1 5 = .ok (.invokestatic 118, 3) := by decide +kernel
theorem dd_A_remove_8 : decode mm_A_remove.2.1 8 = .ok (.pop, 1) := by decide +kernel
theorem dd_A_remove_9 : decode mm_A_remove.2.1 9 = .ok (.aload_n 0, 1) := by decide +kernel
theorem dd_A_remove_10 : decode mm_A_remove.2.1 10 = .ok (.getfield 9, 3) := by decide +kernel
theorem dd_A_remove_13 : decode mm_A_remove.2.1 13 = .ok (.astore_n 2, 1) := by decide +kernel
theorem dd_A_remove_14 : decode mm_A_remove.2.1 14 = .ok (.aload_n 2, 1) := by decide +kernel
theorem dd_A_remove_15 : decode mm_A_remove.2.1 15 = .ok (.iload_n 1, 1) := by decide +kernel
theorem dd_A_remove_16 : decode mm_A_remove.2.1 16 = .ok (.aaload, 1) := by decide +kernel
theorem dd_A_remove_17 : decode mm_A_remove.2.1 17 = .ok (.astore_n 3, 1) := by decide +kernel
theorem dd_A_remove_18 : decode mm_A_remove.2.1 18 = .ok (.aload_n 0, 1) := by decide +kernel
theorem dd_A_remove_19 : decode mm_A_remove.2.1 19 = .ok (.aload_n 2, 1) := by decide +kernel
theorem dd_A_remove_20 : decode mm_A_remove.2.1 20 = .ok (.iload_n 1, 1) := by decide +kernel
theorem dd_A_remove_21 : decode mm_A_remove.2.1 21 = .ok (.invokevirtual 144, 3) := by decide +kernel
theorem dd_A_remove_24 : decode mm_A_remove.2.1 24 = .ok (.aload_n 3, 1) := by decide +kernel
theorem dd_A_remove_25 : decode mm_A_remove.2.1 25 = .ok (.areturn, 1) := by decide +kernel
theorem dd_A_set_0 : decode mm_A_set.2.1 0 = .ok (.iload_n 1, 1) := by decide +kernel
theorem dd_A_set_1 : decode mm_A_set.2.1 1 = .ok (.aload_n 0, 1) := by decide +kernel
theorem dd_A_set_2 : decode mm_A_set.2.1 2 = .ok (.getfield 48, 3) := by decide +kernel
theorem dd_A_set_5 : decode mm_A_set.2.1 5 = .ok (.invokestatic 118, 3) := by decide +kernel
theorem dd_A_set_8 : decode mm_A_set.2.1 8 = .ok (.pop, 1) := by decide +kernel
theorem dd_A_set_9 : decode mm_A_set.2.1 9 = .ok (.aload_n 0, 1) := by decide +kernel
theorem dd_A_set_10 : decode mm_A_set.2.1 10 = .ok (.iload_n 1, 1) := by decide +kernel
theorem dd_A_set_11 : decode mm_A_set.2.1 11 = .ok (.invokevirtual 123, 3) := by decide +kernel
theorem dd_A_set_14 : decode mm_A_set.2.1 14 = .ok (.astore_n 3, 1) := by decide +kernel
theorem dd_A_set_15 : decode mm_A_set.2.1 15 = .ok (.aload_n 0, 1) := by decide +kernel
theorem dd_A_set_16 : decode mm_A_set.2.1 16 = .ok (.getfield 9, 3) := by decide +kernel
theorem dd_A_set_19 : decode mm_A_set.2.1 19 = .ok (.iload_n 1, 1) := by decide +kernel
theorem dd_A_set_20 : decode mm_A_set.2.1 20 = .ok (.aload_n 2, 1) := by decide +kernel
theorem dd_A_set_21 : decode mm_A_set.2.1 21 = .ok (.aastore, 1) := by decide +kernel
theorem dd_A_set_22 : decode mm_A_set.2.1 22 = .ok (.aload_n 3, 1) := by decide +kernel
theorem dd_A_set_23 : decode mm_A_set.2.1 23 = .ok (.areturn, 1) := by decide +kernel
theorem dd_A_size_0 : decode mm_A_size.2.1 0 = .ok (.aload_n 0, 1) := by decide +kernel
theorem dd_A_size_1 : decode mm_A_size.2.1 1 = .ok (.getfield 48, 3) := by decide +kernel
theorem dd_A_size_4 : decode mm_A_size.2.1 4 = .ok (.ireturn, 1) := by decide +kernel
theorem dd_J_copyOf1_0 : decode mm_J_copyOf1.2.1 0 = .ok (.aload_n 0, 1) := by decide +kernel
theorem dd_J_copyOf1_1 : decode mm_J_copyOf1.2.1 1 = .ok (.iload_n 1, 1) := by decide +kernel
theorem dd_J_copyOf1_2 : decode mm_J_copyOf1.2.1 2 = .ok (.aload_n 0, 1) := by decide +kernel
theorem dd_J_copyOf1_3 : decode mm_J_copyOf1.2.1 3 = .ok (.invokevirtual 86, 3) := by decide +kernel
theorem dd_J_copyOf1_6 : decode mm_J_copyOf1.2.1 6 = .ok (.invokestatic 300, 3) := by decide +kernel
theorem dd_J_copyOf1_9 : decode mm_J_copyOf1.2.1 9 = .ok (.areturn, 1) := by decide +kernel
theorem dd_J_copyOf2_0 : decode mm_J_copyOf2.2.1 0 = .ok (.aload_n 2, 1) := by decide +kernel
theorem dd_J_copyOf2_1 : decode mm_J_copyOf2.2.1 1 = .ok (.ldc 110, 2) := by decide +kernel
theorem dd_J_copyOf2_3 : decode mm_J_copyOf2.2.1 3 = .ok (.if_acmp .ne 10, 3) := by decide +kernel
theorem dd_J_copyOf2_6 : decode mm_J_copyOf2.2.1 6 = .ok (.iload_n 1, 1) := by decide +kernel
theorem dd_J_copyOf2_7 : decode mm_J_copyOf2.2.1 7 = .ok (.anewarray 2, 3) := by decide +kernel
theorem dd_J_copyOf2_10 : decode mm_J_copyOf2.2.1 10 = .ok (.goto 14, 3) := by decide +kernel
theorem dd_J_copyOf2_13 : decode mm_J_copyOf2.2.1 13 = .ok (.aload_n 2, 1) := by decide +kernel
theorem dd_J_copyOf2_14 : decode mm_J_copyOf2.2.1 14 = .ok (.invokevirtual 90, 3) := by decide +kernel
theorem dd_J_copyOf2_17 : decode mm_J_copyOf2.2.1 17 = .ok (.iload_n 1, 1) := by decide +kernel
theorem dd_J_copyOf2_18 : decode mm_J_copyOf2.2.1 18 = .ok (.invokestatic 95, 3) := by decide +kernel
theorem dd_J_copyOf2_21 : decode mm_J_copyOf2.2.1 21 = .ok (.checkcast 110, 3) := by decide +kernel
theorem dd_J_copyOf2_24 : decode mm_J_copyOf2.2.1 24 = .ok (.astore_n 3, 1) := by decide +kernel
theorem dd_J_copyOf2_25 : decode mm_J_copyOf2.2.1 25 = .ok (.aload_n 0, 1) := by decide +kernel
theorem dd_J_copyOf2_26 : decode mm_J_copyOf2.2.1 26 = .ok (.iconst 0, 1) := by decide +kernel
theorem dd_J_copyOf2_27 : decode mm_J_copyOf2.2.1 27 = .ok (.aload_n 3, 1) := by decide +kernel
theorem dd_J_copyOf2_28 : decode mm_J_copyOf2.2.1 28 = .ok (.iconst 0, 1) := by decide +kernel
theorem dd_J_copyOf2_29 : decode mm_J_copyOf2.2.1 29 = .ok (.aload_n 0, 1) := by decide +kernel
theorem dd_J_copyOf2_30 : decode mm_J_copyOf2.2.1 30 = .ok (.arraylength, 1) := by decide +kernel
theorem dd_J_copyOf2_31 : decode mm_J_copyOf2.2.1 31 = .ok (.iload_n 1, 1) := by decide +kernel
theorem dd_J_copyOf2_32 : decode mm_J_copyOf2.2.1 32 = .ok (.invokestatic 304, 3) := by decide +kernel
theorem dd_J_copyOf2_35 : decode mm_J_copyOf2.2.1 35 = .ok (.invokestatic 150, 3) := by decide +kernel
theorem dd_J_copyOf2_38 : decode mm_J_copyOf2.2.1 38 = .ok (.aload_n 3, 1) := by decide +kernel
theorem dd_J_copyOf2_39 : decode mm_J_copyOf2.2.1 39 = .ok (.areturn, 1) := by decide +kernel
theorem dd_O_checkIndex_0 : decode mm_O_checkIndex.2.1 0 = .ok (.iload_n 0, 1) := by decide +kernel
theorem dd_O_checkIndex_1 : decode mm_O_checkIndex.2.1 1 = .ok (.iload_n 1, 1) := by decide +kernel
theorem dd_O_checkIndex_2 : decode mm_O_checkIndex.2.1 2 = .ok (.aconst_null, 1) := by decide +kernel
theorem dd_O_checkIndex_3 : decode mm_O_checkIndex.2.1 3 = .ok (.invokestatic 105, 3) := by decide +kernel
theorem dd_O_checkIndex_6 : decode mm_O_checkIndex.2.1 6 = .ok (.ireturn, 1) := by decide +kernel
theorem dd_Q_newLength_0 : decode mm_Q_newLength.2.1 0 = .ok (.iload_n 0, 1) := by decide +kernel
theorem dd_Q_newLength_1 : decode mm_Q_newLength.2.1 1 = .ok (.iload_n 1, 1) := by decide +kernel
theorem dd_Q_newLength_2 : decode mm_Q_newLength.2.1 2 = .ok (.iload_n 2, 1) := by decide +kernel
theorem dd_Q_newLength_3 : decode mm_Q_newLength.2.1 3 = .ok (.invokestatic 194, 3) := by decide +kernel
theorem dd_Q_newLength_6 : decode mm_Q_newLength.2.1 6 = .ok (.iadd, 1) := by decide +kernel
theorem dd_Q_newLength_7 : decode mm_Q_newLength.2.1 7 = .ok (.istore_n 3, 1) := by decide +kernel
theorem dd_Q_newLength_8 : decode mm_Q_newLength.2.1 8 = .ok (.iconst 0, 1) := by decide +kernel
theorem dd_Q_newLength_9 : decode mm_Q_newLength.2.1 9 = .ok (.iload_n 3, 1) := by decide +kernel
theorem dd_Q_newLength_10 : decode mm_Q_newLength.2.1 10 = .ok (.if_icmp .ge 11, 3) := by decide +kernel
theorem dd_Q_newLength_13 : decode mm_Q_newLength.2.1 13 = .ok (.iload_n 3, 1) := by decide +kernel
theorem dd_Q_newLength_14 : decode mm_Q_newLength.2.1 14 = .ok (.ldc 200, 2) := by decide +kernel
theorem dd_Q_newLength_16 : decode mm_Q_newLength.2.1 16 = .ok (.if_icmp .gt 5, 3) := by decide +kernel
theorem dd_Q_newLength_19 : decode mm_Q_newLength.2.1 19 = .ok (.iload_n 3, 1) := by decide +kernel
theorem dd_Q_newLength_20 : decode mm_Q_newLength.2.1 20 = .ok (.ireturn, 1) := by decide +kernel
theorem dd_Q_newLength_21 : decode mm_Q_newLength.2.1 21 = .ok (.iload_n 0, 1) := by decide +kernel
theorem dd_Q_newLength_22 : decode mm_Q_newLength.2.1 22 = .ok (.iload_n 1, 1) := by decide +kernel
theorem dd_Q_newLength_23 : decode mm_Q_newLength.2.1 23 = .ok (.invokestatic 201, 3) := by decide +kernel
theorem dd_Q_newLength_26 : decode mm_Q_newLength.2.1 26 = .ok (.ireturn, 1) := by decide +kernel
theorem dd_P_checkIndex_0 : decode mm_P_checkIndex.2.1 0 = .ok (.iload_n 0, 1) := by decide +kernel
theorem dd_P_checkIndex_1 : decode mm_P_checkIndex.2.1 1 = .ok (.ifCond .lt 8, 3) := by decide +kernel
theorem dd_P_checkIndex_4 : decode mm_P_checkIndex.2.1 4 = .ok (.iload_n 0, 1) := by decide +kernel
theorem dd_P_checkIndex_5 : decode mm_P_checkIndex.2.1 5 = .ok (.iload_n 1, 1) := by decide +kernel
theorem dd_P_checkIndex_6 : decode mm_P_checkIndex.2.1 6 = .ok (.if_icmp .lt 10, 3) := by decide +kernel
theorem dd_P_checkIndex_9 : decode mm_P_checkIndex.2.1 9 = .ok (.aload_n 2, 1) := by decide +kernel
theorem dd_P_checkIndex_10 : decode mm_P_checkIndex.2.1 10 = .ok (.iload_n 0, 1) := by decide +kernel
theorem dd_P_checkIndex_11 : decode mm_P_checkIndex.2.1 11 = .ok (.iload_n 1, 1) := by decide +kernel
theorem dd_P_checkIndex_12 : decode mm_P_checkIndex.2.1 12 = .ok (.invokestatic 95, 3) := by decide +kernel
theorem dd_P_checkIndex_15 : decode mm_P_checkIndex.2.1 15 = .ok (.athrow, 1) := by decide +kernel
theorem dd_P_checkIndex_16 : decode mm_P_checkIndex.2.1 16 = .ok (.iload_n 0, 1) := by decide +kernel
theorem dd_P_checkIndex_17 : decode mm_P_checkIndex.2.1 17 = .ok (.ireturn, 1) := by decide +kernel
theorem fl_B_7 : xa_F "java/util/AbstractList" 7 8 0 := ⟨_, _, _, "java/util/AbstractList", rfl, by decide, ly_8, iw_63, Or.inl rfl⟩
theorem fz_B_7 : xa_Z 8 0 (.int) false "java/util/AbstractList" := ⟨_, _, _, ty_8, rfl, tk_8, nk_8, rfl, rfl, by decide⟩
theorem fl_A_9 : xa_F "java/util/ArrayList" 9 8 1 := ⟨_, _, _, "java/util/ArrayList", rfl, by decide, ly_8, iw_61, Or.inl rfl⟩
theorem fz_A_9 : xa_Z 8 1 (.array (.object "java/lang/Object")) false "java/util/ArrayList" := ⟨_, _, _, ty_8, rfl, tk_8, nk_8, rfl, rfl, by decide⟩
theorem fl_A_63 : xa_F "java/util/ArrayList" 63 8 0 := ⟨_, _, _, "java/util/ArrayList", rfl, by decide, ly_8, iw_64, Or.inr iw_65⟩
theorem fz_A_63 : xa_Z 8 0 (.int) false "java/util/ArrayList" := ⟨_, _, _, ty_8, rfl, tk_8, nk_8, rfl, rfl, by decide⟩
theorem fl_A_48 : xa_F "java/util/ArrayList" 48 8 2 := ⟨_, _, _, "java/util/ArrayList", rfl, by decide, ly_8, iw_62, Or.inl rfl⟩
theorem fz_A_48 : xa_Z 8 2 (.int) false "java/util/ArrayList" := ⟨_, _, _, ty_8, rfl, tk_8, nk_8, rfl, rfl, by decide⟩
theorem iv_B_init_1 {G : xa_G} {rest : List Value} {h : xa_H} {b : Nat} : xa_inv G mm_B_init mm_C_init 1 (.ref b :: rest) [.ref b] rest h := xi_I (n := 0) (As := []) dd_B_init_1 ok_C_init rfl iw_57 iw_55 iw_56 (by decide +kernel) rfl
theorem iv_A_init_1 {G : xa_G} {rest : List Value} {h : xa_H} {b : Nat} : xa_inv G mm_A_init mm_B_init 1 (.ref b :: rest) [.ref b] rest h := xi_I (n := 0) (As := []) dd_A_init_1 ok_B_init rfl iw_54 iw_52 iw_53 (by decide +kernel) rfl
theorem iv_A_add0_2 {G : xa_G} {rest fs : List Value} {h : xa_H} {b : Nat} {a1 : Value} (hb : h b = some (.inr (8, fs))) : xa_inv G mm_A_add0 mm_A_rangeCheckForAdd 2 (a1 :: .ref b :: rest) [.ref b, a1] rest h := xi_V (n := 1) (As := [a1]) dd_A_add0_2 ok_A_rangeCheckForAdd iw_609 iw_611 rfl ps_14 (by decide +kernel) rfl hb
theorem iv_A_add0_33 {G : xa_G} {rest fs : List Value} {h : xa_H} {b : Nat} (hb : h b = some (.inr (8, fs))) : xa_inv G mm_A_add0 mm_A_grow0 33 (.ref b :: rest) [.ref b] rest h := xi_V (n := 0) (As := []) dd_A_add0_33 ok_A_grow0 iw_294 iw_296 rfl ps_2 (by decide +kernel) rfl hb
theorem iv_A_add1_20 {G : xa_G} {rest fs : List Value} {h : xa_H} {b : Nat} {a1 a2 a3 : Value} (hb : h b = some (.inr (8, fs))) : xa_inv G mm_A_add1 mm_A_add2 20 (a3 :: a2 :: a1 :: .ref b :: rest) [.ref b, a1, a2, a3] rest h := xi_V (n := 3) (As := [a1, a2, a3]) dd_A_add1_20 ok_A_add2 iw_290 iw_292 rfl ps_1 (by decide +kernel) rfl hb
theorem iv_A_add2_7 {G : xa_G} {rest fs : List Value} {h : xa_H} {b : Nat} (hb : h b = some (.inr (8, fs))) : xa_inv G mm_A_add2 mm_A_grow0 7 (.ref b :: rest) [.ref b] rest h := xi_V (n := 0) (As := []) dd_A_add2_7 ok_A_grow0 iw_294 iw_296 rfl ps_2 (by decide +kernel) rfl hb
theorem iv_A_get_5 {G : xa_G} {rest : List Value} {h : xa_H} {a1 a2 : Value} : xa_inv G mm_A_get mm_O_checkIndex 5 (a2 :: a1 :: rest) [a1, a2] rest h := xi_S (n := 2) (as := [a1, a2]) dd_A_get_5 ok_O_checkIndex iw_188 iw_189 (by decide +kernel) rfl
theorem iv_A_get_11 {G : xa_G} {rest fs : List Value} {h : xa_H} {b : Nat} {a1 : Value} (hb : h b = some (.inr (8, fs))) : xa_inv G mm_A_get mm_A_elementData 11 (a1 :: .ref b :: rest) [.ref b, a1] rest h := xi_V (n := 1) (As := [a1]) dd_A_get_11 ok_A_elementData iw_194 iw_195 rfl iw_196 (by decide +kernel) rfl hb
theorem iv_A_grow0_7 {G : xa_G} {rest fs : List Value} {h : xa_H} {b : Nat} {a1 : Value} (hb : h b = some (.inr (8, fs))) : xa_inv G mm_A_grow0 mm_A_grow1 7 (a1 :: .ref b :: rest) [.ref b, a1] rest h := xi_V (n := 1) (As := [a1]) dd_A_grow0_7 ok_A_grow1 iw_298 iw_300 rfl ps_3 (by decide +kernel) rfl hb
theorem iv_A_grow1_27 {G : xa_G} {rest : List Value} {h : xa_H} {a1 a2 a3 : Value} : xa_inv G mm_A_grow1 mm_Q_newLength 27 (a3 :: a2 :: a1 :: rest) [a1, a2, a3] rest h := xi_S (n := 3) (as := [a1, a2, a3]) dd_A_grow1_27 ok_Q_newLength iw_302 iw_303 (by decide +kernel) rfl
theorem iv_A_grow1_37 {G : xa_G} {rest : List Value} {h : xa_H} {a1 a2 : Value} : xa_inv G mm_A_grow1 mm_J_copyOf1 37 (a2 :: a1 :: rest) [a1, a2] rest h := xi_S (n := 2) (as := [a1, a2]) dd_A_grow1_37 ok_J_copyOf1 iw_312 iw_313 (by decide +kernel) rfl
theorem iv_A_remove_5 {G : xa_G} {rest : List Value} {h : xa_H} {a1 a2 : Value} : xa_inv G mm_A_remove mm_O_checkIndex 5 (a2 :: a1 :: rest) [a1, a2] rest h := xi_S (n := 2) (as := [a1, a2]) dd_A_remove_5 ok_O_checkIndex iw_188 iw_189 (by decide +kernel) rfl
theorem iv_A_remove_21 {G : xa_G} {rest fs : List Value} {h : xa_H} {b : Nat} {a1 a2 : Value} (hb : h b = some (.inr (8, fs))) : xa_inv G mm_A_remove mm_A_fastRemove 21 (a2 :: a1 :: .ref b :: rest) [.ref b, a1, a2] rest h := xi_V (n := 2) (As := [a1, a2]) dd_A_remove_21 ok_A_fastRemove iw_256 iw_258 rfl ps_0 (by decide +kernel) rfl hb
theorem iv_A_set_5 {G : xa_G} {rest : List Value} {h : xa_H} {a1 a2 : Value} : xa_inv G mm_A_set mm_O_checkIndex 5 (a2 :: a1 :: rest) [a1, a2] rest h := xi_S (n := 2) (as := [a1, a2]) dd_A_set_5 ok_O_checkIndex iw_188 iw_189 (by decide +kernel) rfl
theorem iv_A_set_11 {G : xa_G} {rest fs : List Value} {h : xa_H} {b : Nat} {a1 : Value} (hb : h b = some (.inr (8, fs))) : xa_inv G mm_A_set mm_A_elementData 11 (a1 :: .ref b :: rest) [.ref b, a1] rest h := xi_V (n := 1) (As := [a1]) dd_A_set_11 ok_A_elementData iw_194 iw_195 rfl iw_196 (by decide +kernel) rfl hb
theorem iv_J_copyOf1_6 {G : xa_G} {rest : List Value} {h : xa_H} {a1 a2 a3 : Value} : xa_inv G mm_J_copyOf1 mm_J_copyOf2 6 (a3 :: a2 :: a1 :: rest) [a1, a2, a3] rest h := xi_S (n := 3) (as := [a1, a2, a3]) dd_J_copyOf1_6 ok_J_copyOf2 iw_336 iw_337 (by decide +kernel) rfl
theorem iv_O_checkIndex_3 {G : xa_G} {rest : List Value} {h : xa_H} {a1 a2 a3 : Value} : xa_inv G mm_O_checkIndex mm_P_checkIndex 3 (a3 :: a2 :: a1 :: rest) [a1, a2, a3] rest h := xi_S (n := 3) (as := [a1, a2, a3]) dd_O_checkIndex_3 ok_P_checkIndex iw_191 iw_192 (by decide +kernel) rfl
theorem wo_in : Cond.instanceMethod objectInit ∈ xv_T := iw_39
theorem wo_co : Cond.code objectInit ⟨#[0xb1]⟩ 1 none ∈ xv_T := iw_40
end
section
/-! lists: contracts of what the class calls -/
theorem xt_o {G : xa_G} {M : xa_M} {dp kc ks : Nat} {as : List Value} {h : xa_H} {sz : Nat} {Q : Outcome → xa_H → Nat → Prop} (hO : xa_O M) (hcat : (as.all fun v => decide (v.category = 1)) = true) (hn : Nat.ble as.length M.2.2.1 = true) (k : xa_W G M dp kc ks 0 (as.map some ++ List.replicate (M.2.2.1 - as.length) none) [] h sz Q) : xa_T G M dp kc ks as h sz Q :=
  xt_of hO (fun v hv => by simpa using List.all_eq_true.mp hcat v hv) (Nat.le_of_ble_eq_true hn) k
theorem xw_cl {G : xa_G} {M M' : xa_M} {dp dp' kc ks kc' ks' pc : Nat} {L : List (Option Value)} {stk as rest : List Value} {h : xa_H} {sz : Nat} {Q Q' : Outcome → xa_H → Nat → Prop} (hT : xa_T G M' dp' kc' ks' as h sz Q') (hI : xa_inv G M M' pc stk as rest h) (hO : xa_O M') (hdp : Nat.ble (dp' + 1) dp = true) (hml : Nat.ble M'.2.2.1 100 = true) (hst : Nat.ble ((rest.map fun v => v.category).sum) 8 = true)
    (hret : ∀ v h' z, Q' (.returned v) h' z → xa_W G M dp kc ks (pc + 3) L (v.toList ++ rest) h' z Q) (hthr : ∀ x h' z, Q' (.threw x) h' z → xa_X G M dp kc ks pc L rest x h' z Q) : xa_W G M dp (kc + kc') (ks + ks') pc L stk h sz Q :=
  xw_call hI hT hO (Nat.le_of_ble_eq_true hdp) (Nat.le_of_ble_eq_true hml) (Nat.le_of_ble_eq_true hst) hret hthr
theorem xw_cl0 {G : xa_G} {M M' : xa_M} {dp dp' kc ks pc : Nat} {L : List (Option Value)} {stk as rest : List Value} {h : xa_H} {sz : Nat} {Q Q' : Outcome → xa_H → Nat → Prop} (hT : xa_T G M' dp' 0 0 as h sz Q') (hI : xa_inv G M M' pc stk as rest h) (hO : xa_O M') (hdp : Nat.ble (dp' + 1) dp = true) (hml : Nat.ble M'.2.2.1 100 = true) (hst : Nat.ble ((rest.map fun v => v.category).sum) 8 = true)
    (hret : ∀ v h' z, Q' (.returned v) h' z → xa_W G M dp kc ks (pc + 3) L (v.toList ++ rest) h' z Q) (hthr : ∀ x h' z, Q' (.threw x) h' z → xa_X G M dp kc ks pc L rest x h' z Q) : xa_W G M dp kc ks pc L stk h sz Q := xw_cl hT hI hO hdp hml hst hret hthr
/-- an answer, the heap as it was -/
def xq_same (h : xa_H) (sz : Nat) (v : Option Value) : Outcome → xa_H → Nat → Prop := fun o h' z => o = .returned v ∧ h' = h ∧ z = sz
abbrev xr_q (t n : Nat) (f : Nat → Option Nat) : xa_E := .inl (t, (n, .inr (.inr (.inr (.inr f)))))
/-- a list at a: n objects in an array at ea of cap places -/
def al_at (h : xa_H) (a ea n cap : Nat) (f : Nat → Option Nat) : Prop := (∃ mc : Int32, h a = some (.inr (8, [.int mc, .ref ea, .int (nI n)]))) ∧ h ea = some (xr_q 3 cap f) ∧ n ≤ cap ∧ cap < 1000000
section AL
variable {G : xa_G} {h : xa_H} {sz : Nat}
theorem ct_P_checkIndex {i n : Int32} (h0 : ¬ i < 0) (h1 : i < n) : xa_T G mm_P_checkIndex 0 0 0 [.int i, .int n, .null] h sz (xq_same h sz (some (.int i))) := by
  refine xt_o ok_P_checkIndex rfl rfl ?_
  refine xw_iload_n dd_P_checkIndex_0 rfl ?_
  refine xw_if_lt 9 dd_P_checkIndex_1 (by decide) (fun hc => absurd hc h0) (fun hc => ?_)
  refine xw_iload_n dd_P_checkIndex_4 rfl ?_
  refine xw_iload_n dd_P_checkIndex_5 rfl ?_
  refine xw_icmp_lt 16 dd_P_checkIndex_6 (by decide) (fun hc => ?_) (fun hc => absurd h1 hc)
  refine xw_iload_n dd_P_checkIndex_16 rfl ?_
  exact xw_iret dd_P_checkIndex_17 rfl ⟨rfl, rfl, rfl⟩
theorem ct_O_checkIndex {i n : Int32} (h0 : ¬ i < 0) (h1 : i < n) : xa_T G mm_O_checkIndex 1 0 0 [.int i, .int n] h sz (xq_same h sz (some (.int i))) := by
  refine xt_o ok_O_checkIndex rfl rfl ?_
  refine xw_iload_n dd_O_checkIndex_0 rfl ?_
  refine xw_iload_n dd_O_checkIndex_1 rfl ?_
  refine xw_null dd_O_checkIndex_2 ?_
  refine xw_cl0 (ct_P_checkIndex h0 h1) iv_O_checkIndex_3 ok_P_checkIndex rfl rfl rfl ?_ (fun _ _ _ q => by cases q.1)
  rintro v h1 z1 ⟨hv, rfl, rfl⟩
  cases hv
  exact xw_iret dd_O_checkIndex_6 rfl ⟨rfl, rfl, rfl⟩
theorem ct_A_size {a ea n cap : Nat} {f : Nat → Option Nat} (hA : al_at h a ea n cap f) : xa_T G mm_A_size 0 0 0 [.ref a] h sz (xq_same h sz (some (.int (nI n)))) := by
  obtain ⟨⟨mc, h1⟩, -⟩ := hA
  refine xt_o ok_A_size rfl rfl ?_
  refine xw_aloadR_n dd_A_size_0 rfl ?_
  refine xw_get fl_A_48 dd_A_size_1 h1 rfl ?_
  exact xw_iret dd_A_size_4 rfl ⟨rfl, rfl, rfl⟩
theorem ct_A_isEmpty {a ea n cap : Nat} {f : Nat → Option Nat} (hA : al_at h a ea n cap f) : xa_T G mm_A_isEmpty 0 0 0 [.ref a] h sz (xq_same h sz (some (.int (if n = 0 then 1 else 0)))) := by
  obtain ⟨⟨mc, h1⟩, -, h2, h3⟩ := hA
  refine xt_o ok_A_isEmpty rfl rfl ?_
  refine xw_aloadR_n dd_A_isEmpty_0 rfl ?_
  refine xw_get fl_A_48 dd_A_isEmpty_1 h1 rfl ?_
  refine xw_if_ne 11 dd_A_isEmpty_4 (by decide) (fun hc => ?_) (fun hc => ?_)
  · refine xw_iconst 0 dd_A_isEmpty_11 (by decide) ?_
    have hn : ¬ n = 0 := fun e => hc (by rw [e]; rfl)
    exact xw_zret dd_A_isEmpty_12 rfl rfl ⟨by rw [if_neg hn], rfl, rfl⟩
  · refine xw_iconst 1 dd_A_isEmpty_7 (by decide) ?_
    refine xw_goto 12 dd_A_isEmpty_8 (by decide) ?_
    have hn : n = 0 := by
      by_cases hn : n = 0
      · exact hn
      · exact absurd hc (nI_ne0 (by omega) (by omega))
    exact xw_zret dd_A_isEmpty_12 rfl rfl ⟨by rw [if_pos hn], rfl, rfl⟩
theorem ct_A_elementData {a ea n cap i : Nat} {f : Nat → Option Nat} (hA : al_at h a ea n cap f) (hi : i < cap) : xa_T G mm_A_elementData 0 0 0 [.ref a, .int (nI i)] h sz (xq_same h sz (some (va_rf (f i)))) := by
  obtain ⟨⟨mc, h1⟩, h2, h3, h4⟩ := hA
  refine xt_o ok_A_elementData rfl rfl ?_
  refine xw_aloadR_n dd_A_elementData_0 rfl ?_
  refine xw_get fl_A_9 dd_A_elementData_1 h1 rfl ?_
  refine xw_iload_n dd_A_elementData_4 rfl ?_
  refine xw_aald (t := 3) rfl dd_A_elementData_5 h2 (vp_in_nI hi (by omega)) ?_
  rw [nI_clamp (by omega)]
  exact xw_aret dd_A_elementData_6 rfl (Or.inl ⟨_, rfl⟩) ⟨rfl, rfl, rfl⟩
theorem ct_A_get {a ea n cap i : Nat} {f : Nat → Option Nat} (hA : al_at h a ea n cap f) (hi : i < n) : xa_T G mm_A_get 2 0 0 [.ref a, .int (nI i)] h sz (xq_same h sz (some (va_rf (f i)))) := by
  have hA0 := hA
  obtain ⟨⟨mc, h1⟩, h2, h3, h4⟩ := hA
  refine xt_o ok_A_get rfl rfl ?_
  refine xw_iload_n dd_A_get_0 rfl ?_
  refine xw_aloadR_n dd_A_get_1 rfl ?_
  refine xw_get fl_A_48 dd_A_get_2 h1 rfl ?_
  refine xw_cl0 (ct_O_checkIndex (nI_pos (by omega)) (nI_lt hi (by omega))) iv_A_get_5 ok_O_checkIndex rfl rfl rfl ?_ (fun _ _ _ q => by cases q.1)
  rintro v h' z1 ⟨hv, rfl, rfl⟩
  cases hv
  refine xw_pop dd_A_get_8 rfl ?_
  refine xw_aloadR_n dd_A_get_9 rfl ?_
  refine xw_iload_n dd_A_get_10 rfl ?_
  refine xw_cl0 (ct_A_elementData hA0 (by omega)) (iv_A_get_11 h1) ok_A_elementData rfl rfl rfl ?_ (fun _ _ _ q => by cases q.1)
  rintro v h' z1 ⟨hv, rfl, rfl⟩
  cases hv
  exact xw_aret dd_A_get_14 rfl (Or.inl ⟨_, rfl⟩) ⟨rfl, rfl, rfl⟩
end AL
end
section
/-! rows that give the new heap a name -/
def xd_h (h : xa_H) (sz : Nat) : Prop := ∀ (a : Nat) (e : xa_E), h a = some e → a < sz
section XN
variable {G : xa_G} {M : xa_M} {dp kc ks pc : Nat} {L : List (Option Value)} {st : List Value} {h : xa_H} {sz : Nat} {Q : Outcome → xa_H → Nat → Prop}
theorem xw_dom (k : xd_h h sz → G.2.2.1 ≤ sz → xa_W G M dp kc ks pc L st h sz Q) : xa_W G M dp kc ks pc L st h sz Q := by
  intro p e R s m args below meth c H locs cells slots ls kT nT C h1 h2 h3 h4 hl hP hz hS
  exact k (fun a e ha => by rw [← hz]; exact hP.lt ha) (by have := hS.1; have := C.2.2.2.2.2.2.2.2.2.2.2.2.1; omega) p e R s m args below meth c H locs cells slots ls kT nT C h1 h2 h3 h4 hl hP hz hS
theorem xw_putA {index ci k a : Nat} {fs : List Value} {v : Value} {ty : FieldType} {fin : Bool} (hF : xa_F M.1.cls index ci k) (hZ : xa_Z ci k ty fin M.1.cls) (hfin : fin = false ∨ M.1.name = "<init>") (hd : decode M.2.1 pc = .ok (.putfield index, 3)) (ha : h a = some (.inr (ci, fs))) (hl0 : Nat.ble (k + 1) fs.length = true) (hB : G.2.2.1 ≤ a) (hn : narrow ty v = v) (hfit : fits ty v = true)
    (kk : ∀ h1 : xa_H, h1 a = some (.inr (ci, fs.set k v)) → (∀ b, b ≠ a → h1 b = h b) → xa_W G M dp kc ks (pc + 3) L st h1 sz Q) : xa_W G M dp kc ks pc L (v :: .ref a :: st) h sz Q :=
  xw_put hF hZ hfin hd ha (Nat.le_of_ble_eq_true hl0) hB hn hfit (kk _ (xa_up_eq _ _ _) (fun _ hb => xa_up_ne _ _ hb))
theorem xw_newA {index ci : Nat} {fs : List Value} (hN : xa_N M.1.cls index ci fs) (hd : decode M.2.1 pc = .ok (.new index, 3)) (kk : ∀ h1 : xa_H, h1 sz = some (.inr (ci, fs)) → (∀ b, b ≠ sz → h1 b = h b) → xa_W G M dp kc ks (pc + 3) L (.ref sz :: st) h1 (sz + 1) Q) : xa_W G M dp (kc + 1) (ks + fs.length) pc L st h sz Q :=
  xw_new hN hd (kk _ (xa_up_eq _ _ _) (fun _ hb => xa_up_ne _ _ hb))
theorem xw_iastA {a n : Nat} {f : Nat → Int32} {i x : Int32} (hd : decode M.2.1 pc = .ok (.iastore, 1)) (ha : h a = some (.inl (0, (n, .inl f)))) (hin : vp_in i n) (hB : G.2.2.1 ≤ a) (kk : ∀ h1 : xa_H, h1 a = some (.inl (0, (n, .inl (upd f i.toNatClampNeg x)))) → (∀ b, b ≠ a → h1 b = h b) → xa_W G M dp kc ks (pc + 1) L st h1 sz Q) : xa_W G M dp kc ks pc L (.int x :: .int i :: .ref a :: st) h sz Q :=
  xw_iast hd ha hin hB (kk _ (xa_up_eq _ _ _) (fun _ hb => xa_up_ne _ _ hb))
theorem xw_aastA {a n t v ci : Nat} {vs : List Value} {E : String} {f : Nat → Option Nat} {i : Int32} (ht : xv_y[t]? = some (.object E)) (hA : xa_A ci E) (hd : decode M.2.1 pc = .ok (.aastore, 1)) (ha : h a = some (xr_q t n f)) (hv : h v = some (.inr (ci, vs))) (hin : vp_in i n) (hB : G.2.2.1 ≤ a)
    (kk : ∀ h1 : xa_H, h1 a = some (xr_q t n (va_up f i.toNatClampNeg (some v))) → (∀ b, b ≠ a → h1 b = h b) → xa_W G M dp kc ks (pc + 1) L st h1 sz Q) : xa_W G M dp kc ks pc L (.ref v :: .int i :: .ref a :: st) h sz Q :=
  xw_aast ht hA hd ha hv hin hB (kk _ (xa_up_eq _ _ _) (fun _ hb => xa_up_ne _ _ hb))
theorem xw_aastNA {a n t : Nat} {E : String} {f : Nat → Option Nat} {i : Int32} (ht : xv_y[t]? = some (.object E)) (hd : decode M.2.1 pc = .ok (.aastore, 1)) (ha : h a = some (xr_q t n f)) (hin : vp_in i n) (hB : G.2.2.1 ≤ a)
    (kk : ∀ h1 : xa_H, h1 a = some (xr_q t n (va_up f i.toNatClampNeg none)) → (∀ b, b ≠ a → h1 b = h b) → xa_W G M dp kc ks (pc + 1) L st h1 sz Q) : xa_W G M dp kc ks pc L (.null :: .int i :: .ref a :: st) h sz Q :=
  xw_aastN ht hd ha hin hB (kk _ (xa_up_eq _ _ _) (fun _ hb => xa_up_ne _ _ hb))
theorem xw_anewA {t index N : Nat} {E : String} {n : Int32} (ht : xv_y[t]? = some (.object E)) (hw : Cond.classLink M.1.cls index E ∈ xv_T) (hov : Cond.arrayOver (.object E) ∈ xv_U) (hd : decode M.2.1 pc = .ok (.anewarray index, 3)) (hn : ¬ n < 0) (hN : n.toNatClampNeg = N) (hby : N * 4 ≤ 536870912)
    (kk : ∀ h1 : xa_H, h1 sz = some (xr_q t N (fun _ => none)) → (∀ b, b ≠ sz → h1 b = h b) → xa_W G M dp kc ks (pc + 3) L (.ref sz :: st) h1 (sz + 1) Q) : xa_W G M dp (kc + 1) (ks + N) pc L (.int n :: st) h sz Q :=
  xw_anew ht hw hov hd hn hN hby (kk _ (xa_up_eq _ _ _) (fun _ hb => xa_up_ne _ _ hb))
theorem xw_alenQ {a t n : Nat} {E : String} {f : Nat → Option Nat} (ht : xv_y[t]? = some (.object E)) (hd : decode M.2.1 pc = .ok (.arraylength, 1)) (ha : h a = some (xr_q t n f)) (kk : xa_W G M dp kc ks (pc + 1) L (.int (nI n) :: st) h sz Q) : xa_W G M dp kc ks pc L (.ref a :: st) h sz Q := xw_alen ht hd ha kk
theorem xw_copyA {index a0 a n0 n1 : Nat} {f g : Nat → Option Nat} {sp tp n : Int32} (hw : Cond.methodLink M.1.cls index arraycopyName ∈ xv_T) (hd : decode M.2.1 pc = .ok (.invokestatic index, 3)) (ha0 : h a0 = some (xr_q 3 n0 f)) (ha1 : h a = some (xr_q 3 n1 g)) (i j k : Nat) (hi : i < 2 ^ 31) (hj : j < 2 ^ 31) (hk : k < 2 ^ 31) (h1 : sp = nI i) (h2 : tp = nI j) (h3 : n = nI k) (h4 : i + k ≤ n0) (h5 : j + k ≤ n1)
    (hel : ∀ x : Nat, x < k → ∀ y : Nat, f (i + x) = some y → ∃ ci fs, h y = some (.inr (ci, fs)) ∧ xa_A ci "java/lang/Object") (hB : G.2.2.1 ≤ a) (hdp : Nat.ble 1 dp = true) (hst : Nat.ble ((st.map fun v => v.category).sum) 8 = true)
    (kk : ∀ h1 : xa_H, h1 a = some (xr_q 3 n1 (va_cpy f g i j k)) → (∀ b, b ≠ a → h1 b = h b) → xa_W G M dp kc ks (pc + 3) L st h1 sz Q) : xa_W G M dp kc ks pc L (.int n :: .int tp :: .ref a :: .int sp :: .ref a0 :: st) h sz Q := by
  subst h1 h2 h3
  have k9 := kk _ (xa_up_eq h a (xr_q 3 n1 (va_cpy f g i j k))) (fun _ hb => xa_up_ne _ _ hb)
  refine xw_copy (n0 := n0) (n1 := n1) (f := f) (g := g) hw iw_262 iw_261 iw_21 hd ha0 ha1 (nI_pos hi) (nI_pos hj) (nI_pos hk) (by rw [nI_clamp hi, nI_clamp hk]; exact h4) (by rw [nI_clamp hj, nI_clamp hk]; exact h5) ?_ hB (Nat.le_of_ble_eq_true hdp) (Nat.le_of_ble_eq_true hst) ?_
  · intro x hx y hy
    rw [nI_clamp hk] at hx
    rw [nI_clamp hi] at hy
    exact hel x hx y hy
  · rw [nI_clamp hi, nI_clamp hj, nI_clamp hk]
    exact k9
end XN
/-- the objects that a list holds may lie in an array of objects -/
def xo_all (h : xa_H) (f : Nat → Option Nat) (n : Nat) : Prop := ∀ x : Nat, x < n → ∀ y : Nat, f x = some y → ∃ ci fs, h y = some (.inr (ci, fs)) ∧ xa_A ci "java/lang/Object"
def al_cap (c : Nat) : Nat := if c = 0 then 10 else c + max 1 (c / 2)
section GR
variable {G : xa_G} {h : xa_H} {sz : Nat}
theorem ct_Q_newLength {c m p : Nat} (hc : c < 1000000) (hm : m < 1000000) (h0 : 0 < m) (hp : p < 1000000) : xa_T G mm_Q_newLength 1 0 0 [.int (nI c), .int (nI m), .int (nI p)] h sz (xq_same h sz (some (.int (nI (c + max m p))))) := by
  refine xt_o ok_Q_newLength rfl rfl ?_
  refine xw_iload_n dd_Q_newLength_0 rfl ?_
  refine xw_iload_n dd_Q_newLength_1 rfl ?_
  refine xw_iload_n dd_Q_newLength_2 rfl ?_
  refine xw_max iw_305 iw_306 iw_24 iw_307 dd_Q_newLength_3 (by decide) (Nat.le_of_ble_eq_true rfl) ?_
  refine xw_iadd dd_Q_newLength_6 ?_
  have e1 : nI c + (if nI m < nI p then nI p else nI m) = nI (c + max m p) := by
    by_cases hmp : m < p
    · rw [if_pos (nI_lt hmp (by omega)), nI_add, Nat.max_eq_right (by omega)]
    · rw [if_neg (nI_nlt (by omega) (by omega)), nI_add, Nat.max_eq_left (by omega)]
  rw [e1]
  have hb : c + max m p < 2000000 := by
    have : max m p < 1000000 := by omega
    omega
  refine xw_istore_n dd_Q_newLength_7 (by decide) ?_
  refine xw_iconst 0 dd_Q_newLength_8 (by decide) ?_
  refine xw_iload_n dd_Q_newLength_9 rfl ?_
  refine xw_icmp_ge 21 dd_Q_newLength_10 (by decide) (fun hc => absurd hc (nI_nle (by omega) (by omega))) (fun hc => ?_)
  refine xw_iload_n dd_Q_newLength_13 rfl ?_
  refine xw_ldcI iw_308 dd_Q_newLength_14 ?_
  refine xw_icmp_gt 21 dd_Q_newLength_16 (by decide) (fun hc => absurd hc (by
    have := nI_nlt (a := 2147483639) (b := c + max m p) (by omega) (by omega)
    exact this)) (fun hc => ?_)
  refine xw_iload_n dd_Q_newLength_19 rfl ?_
  exact xw_iret dd_Q_newLength_20 rfl ⟨rfl, rfl, rfl⟩
/-- a longer copy of an array, at the next address -/
def xq_copy (h : xa_H) (sz n cap : Nat) (f : Nat → Option Nat) : Outcome → xa_H → Nat → Prop := fun o h' z => o = .returned (some (.ref sz)) ∧ z = sz + 1 ∧ h' sz = some (xr_q 3 n (va_cpy f (fun _ => none) 0 0 cap)) ∧ ∀ b, b ≠ sz → h' b = h b
theorem ct_J_copyOf2 {ea n cap : Nat} {f : Nat → Option Nat} (ha : h ea = some (xr_q 3 cap f)) (hn : cap ≤ n) (hb : n < 2000000) (hel : xo_all h f cap) : xa_T G mm_J_copyOf2 1 1 n [.ref ea, .int (nI n), .ref G.2.2.2.2] h sz (xq_copy h sz n cap f) := by
  refine xt_o ok_J_copyOf2 rfl rfl ?_
  refine xw_dom (fun hd hB => ?_)
  have hlt := hd _ _ ha
  refine xw_aloadR_n dd_J_copyOf2_0 rfl ?_
  refine xw_mirror iw_339 dd_J_copyOf2_1 ?_
  refine xw_acmp_ne (rx := some G.2.2.2.2) (ry := some G.2.2.2.2) 13 dd_J_copyOf2_3 (by decide) (fun hc => absurd rfl hc) (fun hc => ?_)
  refine xw_iload_n dd_J_copyOf2_6 rfl ?_
  refine xw_less (kc' := 0 + 1) (ks' := 0 + n) (by omega) (by omega) ?_
  refine xw_anewA (t := 3) rfl iw_341 (by decide) dd_J_copyOf2_7 (nI_pos (by omega)) (nI_clamp (by omega)) (by omega) (fun h1 hn1 hf1 => ?_)
  refine xw_goto 24 dd_J_copyOf2_10 (by decide) ?_
  refine xw_astoreR_n dd_J_copyOf2_24 (by decide) ?_
  refine xw_aloadR_n dd_J_copyOf2_25 rfl ?_
  refine xw_iconst 0 dd_J_copyOf2_26 (by decide) ?_
  refine xw_aloadR_n dd_J_copyOf2_27 rfl ?_
  refine xw_iconst 0 dd_J_copyOf2_28 (by decide) ?_
  refine xw_aloadR_n dd_J_copyOf2_29 rfl ?_
  have ha1 : h1 ea = some (xr_q 3 cap f) := (hf1 ea (by omega)).trans ha
  refine xw_alenQ (t := 3) rfl dd_J_copyOf2_30 ha1 ?_
  refine xw_iload_n dd_J_copyOf2_31 rfl ?_
  refine xw_min iw_342 iw_343 iw_24 iw_344 dd_J_copyOf2_32 (by decide) (Nat.le_of_ble_eq_true rfl) ?_
  have e1 : (if nI n < nI cap then nI n else nI cap) = nI cap := by rw [if_neg (nI_nlt hn (by omega))]
  rw [e1]
  refine xw_copyA iw_345 dd_J_copyOf2_35 ha1 hn1 0 0 cap (by omega) (by omega) (by omega) rfl rfl rfl (by omega) (by omega) ?_ (by omega) rfl rfl (fun h2 hn2 hf2 => ?_)
  · intro x hx y hy
    rw [Nat.zero_add] at hy
    obtain ⟨ci, fs, g1, g2⟩ := hel x hx y hy
    have := hd _ _ g1
    exact ⟨ci, fs, (hf1 y (by omega)).trans g1, g2⟩
  refine xw_aloadR_n dd_J_copyOf2_38 rfl ?_
  exact xw_aretR dd_J_copyOf2_39 rfl (Or.inr ⟨_, rfl⟩) ⟨rfl, rfl, hn2, fun b hb => (hf2 b hb).trans (hf1 b hb)⟩
theorem ct_J_copyOf1 {ea n cap : Nat} {f : Nat → Option Nat} (ha : h ea = some (xr_q 3 cap f)) (hn : cap ≤ n) (hb : n < 2000000) (hel : xo_all h f cap) : xa_T G mm_J_copyOf1 2 1 n [.ref ea, .int (nI n)] h sz (xq_copy h sz n cap f) := by
  refine xt_o ok_J_copyOf1 rfl rfl ?_
  refine xw_aloadR_n dd_J_copyOf1_0 rfl ?_
  refine xw_iload_n dd_J_copyOf1_1 rfl ?_
  refine xw_aloadR_n dd_J_copyOf1_2 rfl ?_
  refine xw_getC iw_315 iw_1400 iw_316 iw_335 dd_J_copyOf1_3 ha (by decide) (Nat.le_of_ble_eq_true rfl) ?_
  refine xw_less (kc' := 0 + 1) (ks' := 0 + n) (by omega) (by omega) ?_
  refine xw_cl (ct_J_copyOf2 ha hn hb hel) iv_J_copyOf1_6 ok_J_copyOf2 rfl rfl rfl ?_ (fun _ _ _ q => by cases q.1)
  rintro v h1 z1 ⟨hv, hr⟩
  cases hv
  exact xw_aretR dd_J_copyOf1_9 rfl (Or.inr ⟨_, rfl⟩) ⟨rfl, hr⟩
/-- the list's array is replaced by a longer one, at the next address -/
def xq_grow (h : xa_H) (sz a n cap : Nat) (f : Nat → Option Nat) : Outcome → xa_H → Nat → Prop := fun o h' z => o = .returned (some (.ref sz)) ∧ z = sz + 1 ∧ (∃ f', al_at h' a sz n (al_cap cap) f' ∧ ∀ j, j < cap → f' j = f j) ∧ ∀ b, b ≠ sz → b ≠ a → h' b = h b
theorem ct_A_grow1 {a ea cap : Nat} {f : Nat → Option Nat} (hA : al_at h a ea cap cap f) (hc : cap < 500000) (h0 : cap = 0 → ea = G.2.2.2.1) (hBa : G.2.2.1 ≤ a) (hel : xo_all h f cap) : xa_T G mm_A_grow1 3 1 (al_cap cap) [.ref a, .int (nI (cap + 1))] h sz (xq_grow h sz a cap cap f) := by
  obtain ⟨⟨mc, h1⟩, h2, h3, h4⟩ := hA
  refine xt_o ok_A_grow1 rfl rfl ?_
  refine xw_dom (fun hd hB => ?_)
  have hla := hd _ _ h1
  refine xw_aloadR_n dd_A_grow1_0 rfl ?_
  refine xw_get fl_A_9 dd_A_grow1_1 h1 rfl ?_
  refine xw_alenQ (t := 3) rfl dd_A_grow1_4 h2 ?_
  refine xw_istore_n dd_A_grow1_5 (by decide) ?_
  refine xw_iload_n dd_A_grow1_6 rfl ?_
  refine xw_if_gt 20 dd_A_grow1_7 (by decide) (fun hc0 => ?_) (fun hc0 => ?_)
  · have hpos : 0 < cap := by
      by_cases e : cap = 0
      · subst e
        exact absurd hc0 (by decide)
      · omega
    have hcap : al_cap cap = cap + max 1 (cap / 2) := by unfold al_cap; rw [if_neg (by omega)]
    have hm : max 1 (cap / 2) ≤ cap := by omega
    refine xw_iload_n dd_A_grow1_20 rfl ?_
    refine xw_iload_n dd_A_grow1_21 rfl ?_
    refine xw_iload_n dd_A_grow1_22 rfl ?_
    refine xw_isub dd_A_grow1_23 ?_
    refine xw_iload_n dd_A_grow1_24 rfl ?_
    refine xw_iconst 1 dd_A_grow1_25 (by decide) ?_
    refine xw_ishr dd_A_grow1_26 ?_
    have e1 : nI (cap + 1) - nI cap = nI 1 := by rw [pk_sub (by omega)]; congr 1; omega
    have e2 : nI cap >>> ((1 : Int32) &&& 31) = nI (cap / 2) := by
      have := pk_shrN (n := cap) (by omega) ((1 : Int32) &&& 31) 1 (by decide)
      rw [this]
    rw [e1, e2]
    refine xw_cl0 (ct_Q_newLength (by omega) (by omega) (by omega) (by omega)) iv_A_grow1_27 ok_Q_newLength rfl rfl rfl ?_ (fun _ _ _ q => by cases q.1)
    rintro v h' z1 ⟨hv, rfl, rfl⟩
    cases hv
    refine xw_istore_n dd_A_grow1_30 (by decide) ?_
    refine xw_aloadR_n dd_A_grow1_31 rfl ?_
    refine xw_aloadR_n dd_A_grow1_32 rfl ?_
    refine xw_get fl_A_9 dd_A_grow1_33 h1 rfl ?_
    refine xw_iload_n dd_A_grow1_36 rfl ?_
    refine xw_less (kc' := 0 + 1) (ks' := 0 + (cap + max 1 (cap / 2))) (by omega) (by rw [hcap]; omega) ?_
    refine xw_cl (ct_J_copyOf1 (n := cap + max 1 (cap / 2)) h2 (by omega) (by omega) hel) iv_A_grow1_37 ok_J_copyOf1 rfl rfl rfl ?_ (fun _ _ _ q => by cases q.1)
    rintro v h' z1 ⟨hv, rfl, hn', hf'⟩
    cases hv
    refine xw_dup_x1 dd_A_grow1_40 rfl rfl ?_
    refine xw_putA fl_A_9 fz_A_9 (by decide) dd_A_grow1_41 ((hf' a (by omega)).trans h1) rfl hBa rfl rfl (fun h5 hn5 hf5 => ?_)
    refine xw_aretR dd_A_grow1_44 rfl (Or.inr ⟨_, rfl⟩) ⟨rfl, rfl, ⟨_, ⟨⟨mc, hn5⟩, (hf5 _ (by omega)).trans (by rw [hcap]; exact hn'), by omega, by omega⟩, fun j hj => ?_⟩, fun b hb1 hb2 => (hf5 b hb2).trans (hf' b hb1)⟩
    rw [pk_cpy_in (by omega) (by omega)]
    congr 1
    omega
  · have hz : cap = 0 := by
      by_cases e : cap = 0
      · exact e
      · exact absurd (nI_lt (a := 0) (b := cap) (by omega) (by omega)) hc0
    subst hz
    have hu := h0 rfl
    refine xw_aloadR_n dd_A_grow1_10 rfl ?_
    refine xw_get fl_A_9 dd_A_grow1_11 h1 rfl ?_
    refine xw_empty iw_59 dd_A_grow1_14 ?_
    refine xw_acmp_eq (rx := some ea) (ry := some G.2.2.2.1) 45 dd_A_grow1_17 (by decide) (fun hc => ?_) (fun hc => absurd (by rw [hu]) hc)
    refine xw_aloadR_n dd_A_grow1_45 rfl ?_
    refine xw_bipush 10 dd_A_grow1_46 (by decide) ?_
    refine xw_iload_n dd_A_grow1_48 rfl ?_
    refine xw_max iw_346 iw_306 iw_24 iw_307 dd_A_grow1_49 (by decide) (Nat.le_of_ble_eq_true rfl) ?_
    refine xw_less (kc' := 0 + 1) (ks' := 0 + 10) (by omega) (by decide) ?_
    refine xw_anewA (t := 3) (N := 10) rfl iw_347 (by decide) dd_A_grow1_52 (by decide) (by decide) (by decide) (fun h5 hn5 hf5 => ?_)
    refine xw_dup_x1 dd_A_grow1_55 rfl rfl ?_
    refine xw_putA fl_A_9 fz_A_9 (by decide) dd_A_grow1_56 ((hf5 a (by omega)).trans h1) rfl hBa rfl rfl (fun h6 hn6 hf6 => ?_)
    exact xw_aretR dd_A_grow1_59 rfl (Or.inr ⟨_, rfl⟩) ⟨rfl, rfl, ⟨_, ⟨⟨mc, hn6⟩, (hf6 _ (by omega)).trans hn5, by omega, by decide⟩, fun j hj => by omega⟩, fun b hb1 hb2 => (hf6 b hb2).trans (hf5 b hb1)⟩
theorem ct_A_grow0 {a ea cap : Nat} {f : Nat → Option Nat} (hA : al_at h a ea cap cap f) (hc : cap < 500000) (h0 : cap = 0 → ea = G.2.2.2.1) (hBa : G.2.2.1 ≤ a) (hel : xo_all h f cap) : xa_T G mm_A_grow0 4 1 (al_cap cap) [.ref a] h sz (xq_grow h sz a cap cap f) := by
  have hA0 := hA
  obtain ⟨⟨mc, h1⟩, h2, h3, h4⟩ := hA
  refine xt_o ok_A_grow0 rfl rfl ?_
  refine xw_aloadR_n dd_A_grow0_0 rfl ?_
  refine xw_aloadR_n dd_A_grow0_1 rfl ?_
  refine xw_get fl_A_48 dd_A_grow0_2 h1 rfl ?_
  refine xw_iconst 1 dd_A_grow0_5 (by decide) ?_
  refine xw_iadd dd_A_grow0_6 ?_
  rw [nI_1]
  refine xw_less (kc' := 0 + 1) (ks' := 0 + al_cap cap) (by omega) (by omega) ?_
  refine xw_cl (ct_A_grow1 hA0 hc h0 hBa hel) (iv_A_grow0_7 h1) ok_A_grow1 rfl rfl rfl ?_ (fun _ _ _ q => by cases q.1)
  rintro v h' z1 ⟨hv, hr⟩
  cases hv
  exact xw_aretR dd_A_grow0_10 rfl (Or.inr ⟨_, rfl⟩) ⟨rfl, hr⟩
end GR
end
section
/-! lists, as lists of addresses: what is written -/
def al_x (G : xa_G) (h : xa_H) (a ea cap : Nat) (xs : List Nat) : Prop := G.2.2.1 ≤ a ∧ ((cap = 0 ∧ ea = G.2.2.2.1) ∨ (0 < cap ∧ G.2.2.1 ≤ ea)) ∧ ∃ f, al_at h a ea xs.length cap f ∧ ∀ (i x : Nat), xs[i]? = some x → f i = some x
/-- objects that may lie in lists -/
def xo_in (h : xa_H) (xs : List Nat) : Prop := ∀ x ∈ xs, ∃ ci fs, h x = some (.inr (ci, fs)) ∧ xa_A ci "java/lang/Object"
theorem al_x.ne {G : xa_G} {h : xa_H} {a ea cap : Nat} {xs : List Nat} (hA : al_x G h a ea cap xs) : a ≠ ea := by
  obtain ⟨-, -, f, ⟨⟨mc, h1⟩, h2, -⟩, -⟩ := hA
  intro e
  subst e
  rw [h1] at h2
  cases h2
theorem al_x.cell {G : xa_G} {h : xa_H} {a ea cap : Nat} {xs : List Nat} (hA : al_x G h a ea cap xs) : ∃ fs, h a = some (.inr (8, fs)) := by
  obtain ⟨-, -, f, ⟨⟨mc, h1⟩, h2, -⟩, -⟩ := hA
  exact ⟨_, h1⟩
theorem al_x.len {G : xa_G} {h : xa_H} {a ea cap : Nat} {xs : List Nat} (hA : al_x G h a ea cap xs) : xs.length ≤ cap ∧ cap < 1000000 := by
  obtain ⟨-, -, f, ⟨-, -, h3, h4⟩, -⟩ := hA
  exact ⟨h3, h4⟩
theorem al_x.all {G : xa_G} {h : xa_H} {a ea cap : Nat} {xs : List Nat} {f : Nat → Option Nat} (hf : ∀ (i x : Nat), xs[i]? = some x → f i = some x) (ho : xo_in h xs) : xo_all h f xs.length := by
  intro i hi y hy
  obtain ⟨x, hx⟩ : ∃ x, xs[i]? = some x := ⟨xs[i], List.getElem?_eq_getElem hi⟩
  have e := (hf i x hx).symm.trans hy
  cases e
  exact ho _ (List.mem_of_getElem? hx)
/-- a change of the list alone -/
def xq_upd (G : xa_G) (h : xa_H) (sz a ea cap : Nat) (xs' : List Nat) (v : Option Value) : Outcome → xa_H → Nat → Prop := fun o h' z => o = .returned v ∧ z = sz ∧ al_x G h' a ea cap xs' ∧ ∀ b, b ≠ a → b ≠ ea → h' b = h b
/-- a change of the list, whose array may have been replaced -/
def xq_list (G : xa_G) (h : xa_H) (sz a ea cap n : Nat) (xs' : List Nat) (v : Option Value) : Outcome → xa_H → Nat → Prop := fun o h' z => o = .returned v ∧ ∃ ea' cap', al_x G h' a ea' cap' xs' ∧ (∀ b, b ≠ a → b ≠ ea → b ≠ sz → h' b = h b) ∧ ((ea' = ea ∧ cap' = cap ∧ z = sz ∧ h' sz = h sz) ∨ (ea' = sz ∧ cap' = al_cap cap ∧ z = sz + 1 ∧ n = cap ∧ h' ea = h ea))
def al_pay (n cap : Nat) : Nat := if n = cap then al_cap cap else 0
section AW
variable {G : xa_G} {h : xa_H} {sz : Nat}
theorem ct_A_size' {a ea cap : Nat} {xs : List Nat} (hA : al_x G h a ea cap xs) : xa_T G mm_A_size 0 0 0 [.ref a] h sz (xq_same h sz (some (.int (nI xs.length)))) := by
  obtain ⟨-, -, f, hA, -⟩ := hA
  exact ct_A_size hA
theorem ct_A_get' {a ea cap i x : Nat} {xs : List Nat} (hA : al_x G h a ea cap xs) (hi : xs[i]? = some x) : xa_T G mm_A_get 2 0 0 [.ref a, .int (nI i)] h sz (xq_same h sz (some (.ref x))) := by
  obtain ⟨-, -, f, hA, hf⟩ := hA
  have := ct_A_get (G := G) (sz := sz) hA (List.getElem?_eq_some_iff.mp hi).1
  rw [hf i x hi] at this
  exact this
theorem ct_A_isEmpty' {a ea cap : Nat} {xs : List Nat} (hA : al_x G h a ea cap xs) : xa_T G mm_A_isEmpty 0 0 0 [.ref a] h sz (xq_same h sz (some (.int (if xs.length = 0 then 1 else 0)))) := by
  obtain ⟨-, -, f, hA, -⟩ := hA
  exact ct_A_isEmpty hA
theorem ct_A_set {a ea cap i v x ci : Nat} {fs : List Value} {xs : List Nat} (hA : al_x G h a ea cap xs) (hi : xs[i]? = some x) (hv : h v = some (.inr (ci, fs))) (hci : xa_A ci "java/lang/Object") : xa_T G mm_A_set 2 0 0 [.ref a, .int (nI i), .ref v] h sz (xq_upd G h sz a ea cap (xs.set i v) (some (.ref x))) := by
  have hne := hA.ne
  obtain ⟨hBa, hcap, f, hA, hf⟩ := hA
  have hA0 := hA
  obtain ⟨⟨mc, h1⟩, h2, h3, h4⟩ := hA
  have hil := (List.getElem?_eq_some_iff.mp hi).1
  have hBe : G.2.2.1 ≤ ea := by omega
  refine xt_o ok_A_set rfl rfl ?_
  refine xw_iload_n dd_A_set_0 rfl ?_
  refine xw_aloadR_n dd_A_set_1 rfl ?_
  refine xw_get fl_A_48 dd_A_set_2 h1 rfl ?_
  refine xw_cl0 (ct_O_checkIndex (nI_pos (by omega)) (nI_lt hil (by omega))) iv_A_set_5 ok_O_checkIndex rfl rfl rfl ?_ (fun _ _ _ q => by cases q.1)
  rintro v' h' z1 ⟨hv', rfl, rfl⟩
  cases hv'
  refine xw_pop dd_A_set_8 rfl ?_
  refine xw_aloadR_n dd_A_set_9 rfl ?_
  refine xw_iload_n dd_A_set_10 rfl ?_
  refine xw_cl0 (ct_A_elementData hA0 (by omega)) (iv_A_set_11 h1) ok_A_elementData rfl rfl rfl ?_ (fun _ _ _ q => by cases q.1)
  rintro v' h' z1 ⟨hv', rfl, rfl⟩
  cases hv'
  rw [hf i x hi]
  refine xw_astoreR_n (a := x) dd_A_set_14 (by decide) ?_
  refine xw_aloadR_n dd_A_set_15 rfl ?_
  refine xw_get fl_A_9 dd_A_set_16 h1 rfl ?_
  refine xw_iload_n dd_A_set_19 rfl ?_
  refine xw_aloadR_n dd_A_set_20 rfl ?_
  refine xw_aastA (t := 3) rfl hci dd_A_set_21 h2 hv (vp_in_nI (by omega) (by omega)) hBe (fun h5 hn5 hf5 => ?_)
  rw [nI_clamp (by omega)] at hn5
  refine xw_aloadR_n (a := x) dd_A_set_22 rfl ?_
  refine xw_aretR dd_A_set_23 rfl (Or.inl ⟨_, rfl⟩) ⟨rfl, rfl, ⟨hBa, hcap, _, ⟨⟨mc, (hf5 a hne).trans (by rw [List.length_set]; exact h1)⟩, hn5, by rw [List.length_set]; exact h3, h4⟩, ?_⟩, fun b _ hb => hf5 b hb⟩
  intro j y hj
  by_cases hji : j = i
  · subst hji
    rw [List.getElem?_set_self hil] at hj
    cases hj
    exact va_up_self ..
  · rw [List.getElem?_set_ne (fun e => hji e.symm)] at hj
    rw [va_up_ne _ _ hji]
    exact hf j y hj
theorem ct_A_add2 {a ea cap v ci : Nat} {fs : List Value} {xs : List Nat} (hA : al_x G h a ea cap xs) (ho : xo_in h xs) (hc : cap < 400000) (hv : h v = some (.inr (ci, fs))) (hci : xa_A ci "java/lang/Object") : xa_T G mm_A_add2 5 1 (al_pay xs.length cap) [.ref a, .ref v, .ref ea, .int (nI xs.length)] h sz (xq_list G h sz a ea cap xs.length (xs ++ [v]) none) := by
  have hne := hA.ne
  obtain ⟨hBa, hcap, f, hA, hf⟩ := hA
  have hA0 := hA
  obtain ⟨⟨mc, h1⟩, h2, h3, h4⟩ := hA
  refine xt_o ok_A_add2 rfl rfl ?_
  refine xw_dom (fun hd hB => ?_)
  have hla := hd _ _ h1
  have hle := hd _ _ h2
  refine xw_iload_n dd_A_add2_0 rfl ?_
  refine xw_aloadR_n dd_A_add2_1 rfl ?_
  refine xw_alenQ (t := 3) rfl dd_A_add2_2 h2 ?_
  have happ : ∀ (g : Nat → Option Nat), (∀ j, j < xs.length → g j = f j) → ∀ (i x : Nat), (xs ++ [v])[i]? = some x → va_up g xs.length (some v) i = some x := by
    intro g hg i x hi
    by_cases hi2 : i < xs.length
    · rw [List.getElem?_append_left hi2] at hi
      rw [va_up_ne _ _ (by omega), hg i hi2]
      exact hf i x hi
    · rw [List.getElem?_append_right (by omega)] at hi
      have hlt := (List.getElem?_eq_some_iff.mp hi).1
      simp at hlt
      have he : i = xs.length := by omega
      subst he
      simp at hi
      subst hi
      exact va_up_self ..
  refine xw_icmp_ne 11 dd_A_add2_3 (by decide) (fun hc0 => ?_) (fun hc0 => ?_)
  · have hlt : xs.length < cap := by
      by_cases e : xs.length = cap
      · exact absurd (by rw [e]) hc0
      · omega
    refine xw_aloadR_n dd_A_add2_11 rfl ?_
    refine xw_iload_n dd_A_add2_12 rfl ?_
    refine xw_aloadR_n dd_A_add2_13 rfl ?_
    refine xw_aastA (t := 3) rfl hci dd_A_add2_14 h2 hv (vp_in_nI hlt (by omega)) (by omega) (fun h5 hn5 hf5 => ?_)
    rw [nI_clamp (by omega)] at hn5
    refine xw_aloadR_n dd_A_add2_15 rfl ?_
    refine xw_iload_n dd_A_add2_16 rfl ?_
    refine xw_iconst 1 dd_A_add2_17 (by decide) ?_
    refine xw_iadd dd_A_add2_18 ?_
    rw [nI_1]
    refine xw_putA fl_A_48 fz_A_48 (by decide) dd_A_add2_19 ((hf5 a hne).trans h1) rfl hBa rfl rfl (fun h6 hn6 hf6 => ?_)
    refine xw_vret dd_A_add2_22 rfl ⟨rfl, ea, cap, ⟨hBa, hcap, _, ⟨⟨mc, by simpa using hn6⟩, (hf6 ea (fun e => hne e.symm)).trans hn5, by simp; omega, h4⟩, happ f (fun _ _ => rfl)⟩, fun b b1 b2 _ => (hf6 b b1).trans (hf5 b b2), Or.inl ⟨rfl, rfl, rfl, (hf6 sz (by omega)).trans (hf5 sz (by omega))⟩⟩
  · have heq : xs.length = cap := by
      by_cases e : xs.length = cap
      · exact e
      · exact absurd ((nI_eq (by omega) (by omega)).mp hc0) e
    refine xw_aloadR_n dd_A_add2_6 rfl ?_
    refine xw_less (kc' := 0 + 1) (ks' := 0 + al_cap cap) (by omega) (by unfold al_pay; rw [if_pos heq]; omega) ?_
    have hall : xo_all h f cap := by
      have := al_x.all (G := G) (a := a) (ea := ea) (cap := cap) hf ho
      rw [heq] at this
      exact this
    refine xw_cl (ct_A_grow0 (by rw [heq] at hA0; exact hA0) (by omega) (by omega) hBa hall) (iv_A_add2_7 h1) ok_A_grow0 rfl rfl rfl ?_ (fun _ _ _ q => by cases q.1)
    rintro v' h' z1 ⟨hv', rfl, ⟨f', ⟨⟨mc', g1⟩, g2, g3, g4⟩, g5⟩, g6⟩
    cases hv'
    have hcc : cap < al_cap cap := by
      unfold al_cap
      split <;> omega
    refine xw_astoreR_n dd_A_add2_10 (by decide) ?_
    refine xw_aloadR_n dd_A_add2_11 rfl ?_
    refine xw_iload_n dd_A_add2_12 rfl ?_
    refine xw_aloadR_n dd_A_add2_13 rfl ?_
    have hva : v ≠ a := by
      intro e
      subst e
      rw [hv] at h1
      cases h1
      obtain ⟨r, q1, q2⟩ := hci
      cases q1
      rcases q2 with q2 | q2
      · exact absurd q2 (by decide)
      · exact absurd q2 (by decide)
    have hlv := hd _ _ hv
    refine xw_aastA (t := 3) rfl hci dd_A_add2_14 g2 ((g6 v (by omega) hva).trans hv) (vp_in_nI (by omega) (by omega)) (by omega) (fun h5 hn5 hf5 => ?_)
    rw [nI_clamp (by omega)] at hn5
    refine xw_aloadR_n dd_A_add2_15 rfl ?_
    refine xw_iload_n dd_A_add2_16 rfl ?_
    refine xw_iconst 1 dd_A_add2_17 (by decide) ?_
    refine xw_iadd dd_A_add2_18 ?_
    rw [nI_1]
    refine xw_putA fl_A_48 fz_A_48 (by decide) dd_A_add2_19 ((hf5 a (by omega)).trans g1) rfl hBa rfl rfl (fun h6 hn6 hf6 => ?_)
    refine xw_vret dd_A_add2_22 rfl ⟨rfl, sz, al_cap cap, ⟨hBa, Or.inr ⟨by omega, hB⟩, _, ⟨⟨mc', by simpa using hn6⟩, (hf6 sz (by omega)).trans hn5, by simp; omega, g4⟩, happ f' (fun j hj => g5 j (by omega))⟩, fun b b1 b2 b3 => (hf6 b b1).trans ((hf5 b b3).trans (g6 b b3 b1)), Or.inr ⟨rfl, rfl, rfl, heq, (hf6 ea (fun e => hne e.symm)).trans ((hf5 ea (by omega)).trans (g6 ea (by omega) (fun e => hne e.symm)))⟩⟩
end AW
end
section
/-! lists: more that is written -/
theorem al_x.mod {G : xa_G} {h h1 : xa_H} {a ea cap : Nat} {xs : List Nat} {mc : Int32} (hA : al_x G h a ea cap xs) (h2 : h1 a = some (.inr (8, [.int mc, .ref ea, .int (nI xs.length)]))) (h3 : ∀ b, b ≠ a → h1 b = h b) : al_x G h1 a ea cap xs := by
  have hne := hA.ne
  obtain ⟨hBa, hcap, f, ⟨-, g2, g3, g4⟩, hf⟩ := hA
  exact ⟨hBa, hcap, f, ⟨⟨mc, h2⟩, (h3 ea (fun e => hne e.symm)).trans g2, g3, g4⟩, hf⟩
theorem xo_obj {ci : Nat} (h : xa_A ci "java/lang/Object") : ci ≠ 8 := by
  intro e
  subst e
  obtain ⟨r, q1, q2⟩ := h
  cases q1
  rcases q2 with q2 | q2
  · exact absurd q2 (by decide)
  · exact absurd q2 (by decide)
theorem xo_in.keep {h h1 : xa_H} {xs : List Nat} (ho : xo_in h xs) (hk : ∀ b ci fs, h b = some (.inr (ci, fs)) → ci ≠ 8 → h1 b = h b) : xo_in h1 xs := by
  intro x hx
  obtain ⟨ci, fs, g1, g2⟩ := ho x hx
  exact ⟨ci, fs, (hk x ci fs g1 (xo_obj g2)).trans g1, g2⟩
section AV
variable {G : xa_G} {h : xa_H} {sz : Nat}
theorem ct_A_add1 {a ea cap v ci : Nat} {fs : List Value} {xs : List Nat} (hA : al_x G h a ea cap xs) (ho : xo_in h xs) (hc : cap < 400000) (hv : h v = some (.inr (ci, fs))) (hci : xa_A ci "java/lang/Object") : xa_T G mm_A_add1 6 1 (al_pay xs.length cap) [.ref a, .ref v] h sz (xq_list G h sz a ea cap xs.length (xs ++ [v]) (some (.int 1))) := by
  have hne := hA.ne
  have hA0 := hA
  obtain ⟨hBa, hcap, f, ⟨⟨mc, h1⟩, h2, h3, h4⟩, hf⟩ := hA
  refine xt_o ok_A_add1 rfl rfl ?_
  refine xw_dom (fun hd hB => ?_)
  have hla := hd _ _ h1
  refine xw_aloadR_n dd_A_add1_0 rfl ?_
  refine xw_dup dd_A_add1_1 rfl ?_
  refine xw_get fl_A_63 dd_A_add1_2 h1 rfl ?_
  refine xw_iconst 1 dd_A_add1_5 (by decide) ?_
  refine xw_iadd dd_A_add1_6 ?_
  refine xw_putA fl_A_63 fz_A_63 (by decide) dd_A_add1_7 h1 rfl hBa rfl rfl (fun h5 hn5 hf5 => ?_)
  refine xw_aloadR_n dd_A_add1_10 rfl ?_
  refine xw_aloadR_n dd_A_add1_11 rfl ?_
  refine xw_aloadR_n dd_A_add1_12 rfl ?_
  refine xw_get fl_A_9 dd_A_add1_13 hn5 rfl ?_
  refine xw_aloadR_n dd_A_add1_16 rfl ?_
  refine xw_get fl_A_48 dd_A_add1_17 hn5 rfl ?_
  have hkeep : ∀ b ci fs, h b = some (.inr (ci, fs)) → ci ≠ 8 → h5 b = h b := by
    intro b ci fs hb hne8
    refine hf5 b (fun e => ?_)
    subst e
    rw [hb] at h1
    cases h1
    exact hne8 rfl
  refine xw_less (kc' := 0 + 1) (ks' := 0 + al_pay xs.length cap) (by omega) (by omega) ?_
  refine xw_cl (ct_A_add2 (hA0.mod hn5 hf5) (ho.keep hkeep) hc ((hkeep v ci fs hv (xo_obj hci)).trans hv) hci) (iv_A_add1_20 hn5) ok_A_add2 rfl rfl rfl ?_ (fun _ _ _ q => by cases q.1)
  rintro v' h' z1 ⟨hv', ea', cap', g1, g2, g3⟩
  cases hv'
  refine xw_iconst 1 dd_A_add1_23 (by decide) ?_
  refine xw_zret dd_A_add1_24 rfl rfl ⟨rfl, ea', cap', g1, fun b b1 b2 b3 => (g2 b b1 b2 b3).trans (hf5 b b1), ?_⟩
  rcases g3 with ⟨q1, q2, q3, q4⟩ | q
  · exact Or.inl ⟨q1, q2, q3, q4.trans (hf5 sz (by omega))⟩
  · exact Or.inr ⟨q.1, q.2.1, q.2.2.1, q.2.2.2.1, q.2.2.2.2.trans (hf5 ea (fun e => hne e.symm))⟩
theorem ct_A_rangeCheckForAdd {a ea cap i : Nat} {xs : List Nat} (hA : al_x G h a ea cap xs) (hi : i ≤ xs.length) : xa_T G mm_A_rangeCheckForAdd 0 0 0 [.ref a, .int (nI i)] h sz (xq_same h sz none) := by
  obtain ⟨hBa, hcap, f, ⟨⟨mc, h1⟩, h2, h3, h4⟩, hf⟩ := hA
  refine xt_o ok_A_rangeCheckForAdd rfl rfl ?_
  refine xw_iload_n dd_A_rangeCheckForAdd_0 rfl ?_
  refine xw_aloadR_n dd_A_rangeCheckForAdd_1 rfl ?_
  refine xw_get fl_A_48 dd_A_rangeCheckForAdd_2 h1 rfl ?_
  refine xw_icmp_gt 12 dd_A_rangeCheckForAdd_5 (by decide) (fun hc => absurd hc (nI_nlt hi (by omega))) (fun hc => ?_)
  refine xw_iload_n dd_A_rangeCheckForAdd_8 rfl ?_
  refine xw_if_ge 25 dd_A_rangeCheckForAdd_9 (by decide) (fun hc => ?_) (fun hc => absurd (nI_pos' (by omega)) hc)
  exact xw_vret dd_A_rangeCheckForAdd_25 rfl ⟨rfl, rfl, rfl⟩
/-- an element comes in between -/
theorem al_ins {f g : Nat → Option Nat} {xs : List Nat} {i v : Nat} (hi : i ≤ xs.length) (hf : ∀ (j y : Nat), xs[j]? = some y → f j = some y) (hg : ∀ j, j < xs.length → g j = f j) : ∀ (j y : Nat), (xs.insertIdx i v)[j]? = some y → va_up (va_cpy g g i (i + 1) (xs.length - i)) i (some v) j = some y := by
  intro j y hj
  rw [List.getElem?_insertIdx] at hj
  by_cases hji : j < i
  · rw [if_pos hji] at hj
    rw [va_up_ne _ _ (by omega), pk_cpy_out (by omega), hg j (by omega)]
    exact hf j y hj
  · rw [if_neg hji] at hj
    by_cases hje : j = i
    · subst hje
      simp [hi] at hj
      subst hj
      exact va_up_self ..
    · rw [if_neg hje] at hj
      have hlt := (List.getElem?_eq_some_iff.mp hj).1
      rw [va_up_ne _ _ hje, pk_cpy_in (by omega) (by omega), show i + (j - (i + 1)) = j - 1 by omega, hg _ hlt]
      exact hf _ y hj
theorem ct_A_add0 {a ea cap v ci i : Nat} {fs : List Value} {xs : List Nat} (hA : al_x G h a ea cap xs) (hi : i ≤ xs.length) (ho : xo_in h xs) (hc : cap < 400000) (hv : h v = some (.inr (ci, fs))) (hci : xa_A ci "java/lang/Object") : xa_T G mm_A_add0 6 1 (al_pay xs.length cap) [.ref a, .int (nI i), .ref v] h sz (xq_list G h sz a ea cap xs.length (xs.insertIdx i v) none) := by
  have hne := hA.ne
  have hA0 := hA
  obtain ⟨hBa, hcap, f, ⟨⟨mc, h1⟩, h2, h3, h4⟩, hf⟩ := hA
  have hlen : (xs.insertIdx i v).length = xs.length + 1 := by rw [List.length_insertIdx]; simp [hi]
  refine xt_o ok_A_add0 rfl rfl ?_
  refine xw_dom (fun hd hB => ?_)
  have hla := hd _ _ h1
  have hle := hd _ _ h2
  have hlv := hd _ _ hv
  refine xw_aloadR_n dd_A_add0_0 rfl ?_
  refine xw_iload_n dd_A_add0_1 rfl ?_
  refine xw_cl0 (ct_A_rangeCheckForAdd hA0 hi) (iv_A_add0_2 h1) ok_A_rangeCheckForAdd rfl rfl rfl ?_ (fun _ _ _ q => by cases q.1)
  rintro v' h' z1 ⟨hv', rfl, rfl⟩
  cases hv'
  refine xw_aloadR_n dd_A_add0_5 rfl ?_
  refine xw_dup dd_A_add0_6 rfl ?_
  refine xw_get fl_A_63 dd_A_add0_7 h1 rfl ?_
  refine xw_iconst 1 dd_A_add0_10 (by decide) ?_
  refine xw_iadd dd_A_add0_11 ?_
  refine xw_putA fl_A_63 fz_A_63 (by decide) dd_A_add0_12 h1 rfl hBa rfl rfl (fun h5 hn5 hf5 => ?_)
  have hA5 := hA0.mod hn5 hf5
  have hkeep : ∀ b ci fs, h' b = some (.inr (ci, fs)) → ci ≠ 8 → h5 b = h' b := by
    intro b ci fs hb hne8
    refine hf5 b (fun e => ?_)
    subst e
    rw [hb] at h1
    cases h1
    exact hne8 rfl
  have ho5 := ho.keep hkeep
  have hv5 := (hkeep v ci fs hv (xo_obj hci)).trans hv
  have h25 : h5 ea = some (xr_q 3 cap f) := (hf5 ea (fun e => hne e.symm)).trans h2
  refine xw_aloadR_n dd_A_add0_15 rfl ?_
  refine xw_get fl_A_48 dd_A_add0_16 hn5 rfl ?_
  refine xw_dup dd_A_add0_19 rfl ?_
  refine xw_istore_n dd_A_add0_20 (by decide) ?_
  refine xw_aloadR_n dd_A_add0_21 rfl ?_
  refine xw_get fl_A_9 dd_A_add0_22 hn5 rfl ?_
  refine xw_dup dd_A_add0_25 rfl ?_
  refine xw_astoreR dd_A_add0_26 (by decide) ?_
  refine xw_alenQ (t := 3) rfl dd_A_add0_28 h25 ?_
  have tail : ∀ (h6 : xa_H) (z e2 c2 : Nat) (g : Nat → Option Nat) (m2 : Int32), h6 a = some (.inr (8, [.int m2, .ref e2, .int (nI xs.length)])) → h6 e2 = some (xr_q 3 c2 g) → (∀ j, j < xs.length → g j = f j) → xs.length < c2 → c2 < 1000000 → G.2.2.1 ≤ e2 → e2 ≠ a → v ≠ e2 → h6 v = some (.inr (ci, fs)) → xo_in h6 xs →
      (∀ h7 : xa_H, al_x G h7 a e2 c2 (xs.insertIdx i v) → (∀ b, b ≠ a → b ≠ e2 → h7 b = h6 b) → xq_list G h' z1 a ea cap xs.length (xs.insertIdx i v) none (.returned none) h7 z) →
      xa_W G mm_A_add0 6 0 0 38 [some (.ref a), some (.int (nI i)), some (.ref v), some (.int (nI xs.length)), some (.ref e2)] [] h6 z (xq_list G h' z1 a ea cap xs.length (xs.insertIdx i v) none) := by
    intro h6 z e2 c2 g m2 k1 k2 k3 k4 k5 k6 k7 kv k8 k9 kq
    refine xw_aloadR dd_A_add0_38 rfl ?_
    refine xw_iload_n dd_A_add0_40 rfl ?_
    refine xw_aloadR dd_A_add0_41 rfl ?_
    refine xw_iload_n dd_A_add0_43 rfl ?_
    refine xw_iconst 1 dd_A_add0_44 (by decide) ?_
    refine xw_iadd dd_A_add0_45 ?_
    refine xw_iload_n dd_A_add0_46 rfl ?_
    refine xw_iload_n dd_A_add0_47 rfl ?_
    refine xw_isub dd_A_add0_48 ?_
    refine xw_copyA iw_260 dd_A_add0_49 k2 k2 i (i + 1) (xs.length - i) (by omega) (by omega) (by omega) rfl (nI_1 i) (pk_sub hi) (by omega) (by omega) ?_ k6 rfl rfl (fun h7 hn7 hf7 => ?_)
    · intro x1 hx1 y hy
      rw [k3 _ (by omega)] at hy
      exact al_x.all (G := G) (a := a) (ea := ea) (cap := cap) hf k9 (i + x1) (by omega) y hy
    refine xw_aloadR dd_A_add0_52 rfl ?_
    refine xw_iload_n dd_A_add0_54 rfl ?_
    refine xw_aloadR_n dd_A_add0_55 rfl ?_
    refine xw_aastA (t := 3) rfl hci dd_A_add0_56 hn7 ((hf7 v kv).trans k8) (vp_in_nI (by omega) (by omega)) k6 (fun h8 hn8 hf8 => ?_)
    rw [nI_clamp (by omega)] at hn8
    refine xw_aloadR_n dd_A_add0_57 rfl ?_
    refine xw_iload_n dd_A_add0_58 rfl ?_
    refine xw_iconst 1 dd_A_add0_59 (by decide) ?_
    refine xw_iadd dd_A_add0_60 ?_
    rw [nI_1]
    refine xw_putA fl_A_48 fz_A_48 (by decide) dd_A_add0_61 ((hf8 a (fun e => k7 e.symm)).trans ((hf7 a (fun e => k7 e.symm)).trans k1)) rfl hBa rfl rfl (fun h9 hn9 hf9 => ?_)
    refine xw_vret dd_A_add0_64 rfl (kq h9 ⟨hBa, Or.inr ⟨by omega, k6⟩, _, ⟨⟨m2, by rw [hlen]; exact hn9⟩, (hf9 e2 k7).trans hn8, by omega, k5⟩, al_ins hi hf k3⟩ (fun b b1 b2 => (hf9 b b1).trans ((hf8 b b2).trans (hf7 b b2))))
  refine xw_icmp_ne 38 dd_A_add0_29 (by decide) (fun hc0 => ?_) (fun hc0 => ?_)
  · have hlt : xs.length < cap := by
      by_cases e : xs.length = cap
      · exact absurd (by rw [e]) hc0
      · omega
    refine xw_less (kc' := 0) (ks' := 0) (by omega) (by omega) ?_
    refine tail h5 z1 ea cap f _ hn5 h25 (fun _ _ => rfl) hlt h4 (by omega) (fun e => hne e.symm) (fun e => ?_) hv5 ho5 (fun h7 q1 q2 => ⟨rfl, ea, cap, q1, fun b b1 b2 _ => (q2 b b1 b2).trans (hf5 b b1), Or.inl ⟨rfl, rfl, rfl, (q2 z1 (by omega) (by omega)).trans (hf5 z1 (by omega))⟩⟩)
    subst e
    rw [hv] at h2
    cases h2
  · have heq : xs.length = cap := by
      by_cases e : xs.length = cap
      · exact e
      · exact absurd ((nI_eq (by omega) (by omega)).mp hc0) e
    refine xw_aloadR_n dd_A_add0_32 rfl ?_
    refine xw_less (kc' := 0 + 1) (ks' := 0 + al_cap cap) (by omega) (by unfold al_pay; rw [if_pos heq]; omega) ?_
    have hall : xo_all h5 f cap := by
      have := al_x.all (G := G) (a := a) (ea := ea) (cap := cap) hf ho5
      rw [heq] at this
      exact this
    refine xw_cl (ct_A_grow0 (f := f) ⟨⟨_, by rw [heq] at hn5; exact hn5⟩, h25, by omega, h4⟩ (by omega) (by omega) hBa hall) (iv_A_add0_33 hn5) ok_A_grow0 rfl rfl rfl ?_ (fun _ _ _ q => by cases q.1)
    rintro v' h6 z2 ⟨hv', rfl, ⟨f', ⟨⟨mc', g1⟩, g2, g3, g4⟩, g5⟩, g6⟩
    cases hv'
    have hcc : cap < al_cap cap := by
      unfold al_cap
      split <;> omega
    have hva : v ≠ a := fun e => by
      subst e
      rw [hv] at h1
      cases h1
      exact xo_obj hci rfl
    refine xw_astoreR dd_A_add0_36 (by decide) ?_
    refine tail h6 (z1 + 1) z1 (al_cap cap) f' mc' (by rw [heq]; exact g1) g2 (fun j hj => g5 j (by omega)) (by omega) g4 hB (by omega) (by omega) ((g6 v (by omega) hva).trans hv5) (ho5.keep ?_) (fun h7 q1 q2 => ⟨rfl, z1, al_cap cap, q1, fun b b1 b2 b3 => (q2 b b1 b3).trans ((g6 b b3 b1).trans (hf5 b b1)), Or.inr ⟨rfl, rfl, rfl, heq, (q2 ea (fun e => hne e.symm) (by omega)).trans ((g6 ea (by omega) (fun e => hne e.symm)).trans (hf5 ea (fun e => hne e.symm)))⟩⟩)
    intro b cb fb hb hb8
    have hb5 : h' b = some (.inr (cb, fb)) := by
      by_cases e : b = a
      · subst e
        rw [hn5] at hb
        cases hb
        exact absurd rfl hb8
      · rw [← hf5 b e]; exact hb
    have := hd _ _ hb5
    refine g6 b (by omega) (fun e => ?_)
    subst e
    rw [hb5] at h1
    cases h1
    exact hb8 rfl
end AV
end
section
/-! lists: remove, clear, new -/
theorem al_del {f : Nat → Option Nat} {xs : List Nat} {i : Nat} (hf : ∀ (j y : Nat), xs[j]? = some y → f j = some y) (hi : i < xs.length) : ∀ (j y : Nat), (xs.eraseIdx i)[j]? = some y → va_up (va_cpy f f (i + 1) i (xs.length - 1 - i)) (xs.length - 1) none j = some y := by
  intro j y hj
  have hlt := (List.getElem?_eq_some_iff.mp hj).1
  rw [List.length_eraseIdx, if_pos hi] at hlt
  rw [List.getElem?_eraseIdx] at hj
  rw [va_up_ne _ _ (by omega)]
  by_cases hji : j < i
  · rw [if_pos hji] at hj
    rw [pk_cpy_out (by omega)]
    exact hf j y hj
  · rw [if_neg hji] at hj
    rw [pk_cpy_in (by omega) (by omega), show i + 1 + (j - i) = j + 1 by omega]
    exact hf _ y hj
section AU
variable {G : xa_G} {h : xa_H} {sz : Nat}
theorem ct_A_fastRemove {a ea cap i : Nat} {xs : List Nat} (hA : al_x G h a ea cap xs) (ho : xo_in h xs) (hi : i < xs.length) : xa_T G mm_A_fastRemove 1 0 0 [.ref a, .ref ea, .int (nI i)] h sz (xq_upd G h sz a ea cap (xs.eraseIdx i) none) := by
  have hne := hA.ne
  obtain ⟨hBa, hcap, f, ⟨⟨mc, h1⟩, h2, h3, h4⟩, hf⟩ := hA
  have hlen : (xs.eraseIdx i).length = xs.length - 1 := by rw [List.length_eraseIdx, if_pos hi]
  have hBe : G.2.2.1 ≤ ea := by omega
  refine xt_o ok_A_fastRemove rfl rfl ?_
  refine xw_aloadR_n dd_A_fastRemove_0 rfl ?_
  refine xw_dup dd_A_fastRemove_1 rfl ?_
  refine xw_get fl_A_63 dd_A_fastRemove_2 h1 rfl ?_
  refine xw_iconst 1 dd_A_fastRemove_5 (by decide) ?_
  refine xw_iadd dd_A_fastRemove_6 ?_
  refine xw_putA fl_A_63 fz_A_63 (by decide) dd_A_fastRemove_7 h1 rfl hBa rfl rfl (fun h5 hn5 hf5 => ?_)
  have h25 : h5 ea = some (xr_q 3 cap f) := (hf5 ea (fun e => hne e.symm)).trans h2
  have hkeep : ∀ b ci fs, h b = some (.inr (ci, fs)) → ci ≠ 8 → h5 b = h b := by
    intro b ci fs hb hne8
    refine hf5 b (fun e => ?_)
    subst e
    rw [hb] at h1
    cases h1
    exact hne8 rfl
  have ho5 := ho.keep hkeep
  refine xw_aloadR_n dd_A_fastRemove_10 rfl ?_
  refine xw_get fl_A_48 dd_A_fastRemove_11 hn5 rfl ?_
  refine xw_iconst 1 dd_A_fastRemove_14 (by decide) ?_
  refine xw_isub dd_A_fastRemove_15 ?_
  have e1 : nI xs.length - 1 = nI (xs.length - 1) := by
    have := nI_pred (xs.length - 1)
    rw [show xs.length - 1 + 1 = xs.length by omega] at this
    exact this
  rw [e1]
  refine xw_dup dd_A_fastRemove_16 rfl ?_
  refine xw_istore_n dd_A_fastRemove_17 (by decide) ?_
  refine xw_iload_n dd_A_fastRemove_18 rfl ?_
  have tail : ∀ (h6 : xa_H) (m2 : Int32), h6 a = some (.inr (8, [.int m2, .ref ea, .int (nI xs.length)])) → h6 ea = some (xr_q 3 cap (va_cpy f f (i + 1) i (xs.length - 1 - i))) → (∀ b, b ≠ a → b ≠ ea → h6 b = h b) → xa_W G mm_A_fastRemove 1 0 0 34 [some (.ref a), some (.ref ea), some (.int (nI i)), some (.int (nI (xs.length - 1)))] [] h6 sz (xq_upd G h sz a ea cap (xs.eraseIdx i) none) := by
    intro h6 m2 k1 k2 k3
    refine xw_aloadR_n dd_A_fastRemove_34 rfl ?_
    refine xw_aloadR_n dd_A_fastRemove_35 rfl ?_
    refine xw_iload_n dd_A_fastRemove_36 rfl ?_
    refine xw_dup_x1 dd_A_fastRemove_37 rfl rfl ?_
    refine xw_putA fl_A_48 fz_A_48 (by decide) dd_A_fastRemove_38 k1 rfl hBa rfl rfl (fun h7 hn7 hf7 => ?_)
    refine xw_null dd_A_fastRemove_41 ?_
    refine xw_aastNA (t := 3) rfl dd_A_fastRemove_42 ((hf7 ea (fun e => hne e.symm)).trans k2) (vp_in_nI (by omega) (by omega)) hBe (fun h8 hn8 hf8 => ?_)
    rw [nI_clamp (by omega)] at hn8
    exact xw_vret dd_A_fastRemove_43 rfl ⟨rfl, rfl, ⟨hBa, hcap, _, ⟨⟨m2, by rw [hlen]; exact (hf8 a hne).trans hn7⟩, hn8, by omega, h4⟩, al_del hf hi⟩, fun b b1 b2 => (hf8 b b2).trans ((hf7 b b1).trans (k3 b b1 b2))⟩
  refine xw_icmp_le 34 dd_A_fastRemove_19 (by decide) (fun hc => ?_) (fun hc => ?_)
  · have hl : xs.length - 1 - i = 0 := by
      have := (nI_leI (a := xs.length - 1) (b := i) (by omega) (by omega)).mp hc
      omega
    refine tail h5 _ hn5 ?_ (fun b b1 _ => hf5 b b1)
    rw [h25, hl]
    congr 3
    funext j
    rw [pk_cpy_out (by omega)]
  · refine xw_aloadR_n dd_A_fastRemove_22 rfl ?_
    refine xw_iload_n dd_A_fastRemove_23 rfl ?_
    refine xw_iconst 1 dd_A_fastRemove_24 (by decide) ?_
    refine xw_iadd dd_A_fastRemove_25 ?_
    refine xw_aloadR_n dd_A_fastRemove_26 rfl ?_
    refine xw_iload_n dd_A_fastRemove_27 rfl ?_
    refine xw_iload_n dd_A_fastRemove_28 rfl ?_
    refine xw_iload_n dd_A_fastRemove_29 rfl ?_
    refine xw_isub dd_A_fastRemove_30 ?_
    refine xw_copyA iw_260 dd_A_fastRemove_31 h25 h25 (i + 1) i (xs.length - 1 - i) (by omega) (by omega) (by omega) (nI_1 i) rfl (pk_sub (by omega)) (by omega) (by omega) ?_ hBe rfl rfl (fun h7 hn7 hf7 => ?_)
    · intro x1 hx1 y hy
      exact al_x.all (G := G) (a := a) (ea := ea) (cap := cap) hf ho5 (i + 1 + x1) (by omega) y hy
    exact tail h7 _ ((hf7 a hne).trans hn5) hn7 (fun b b1 b2 => (hf7 b b2).trans (hf5 b b1))
theorem ct_A_remove {a ea cap i y : Nat} {xs : List Nat} (hA : al_x G h a ea cap xs) (ho : xo_in h xs) (hi : xs[i]? = some y) : xa_T G mm_A_remove 2 0 0 [.ref a, .int (nI i)] h sz (xq_upd G h sz a ea cap (xs.eraseIdx i) (some (.ref y))) := by
  have hA0 := hA
  have hil := (List.getElem?_eq_some_iff.mp hi).1
  obtain ⟨hBa, hcap, f, ⟨⟨mc, h1⟩, h2, h3, h4⟩, hf⟩ := hA
  refine xt_o ok_A_remove rfl rfl ?_
  refine xw_iload_n dd_A_remove_0 rfl ?_
  refine xw_aloadR_n dd_A_remove_1 rfl ?_
  refine xw_get fl_A_48 dd_A_remove_2 h1 rfl ?_
  refine xw_cl0 (ct_O_checkIndex (nI_pos (by omega)) (nI_lt hil (by omega))) iv_A_remove_5 ok_O_checkIndex rfl rfl rfl ?_ (fun _ _ _ q => by cases q.1)
  rintro v' h' z1 ⟨hv', rfl, rfl⟩
  cases hv'
  refine xw_pop dd_A_remove_8 rfl ?_
  refine xw_aloadR_n dd_A_remove_9 rfl ?_
  refine xw_get fl_A_9 dd_A_remove_10 h1 rfl ?_
  refine xw_astoreR_n dd_A_remove_13 (by decide) ?_
  refine xw_aloadR_n dd_A_remove_14 rfl ?_
  refine xw_iload_n dd_A_remove_15 rfl ?_
  refine xw_aald (t := 3) rfl dd_A_remove_16 h2 (vp_in_nI (by omega) (by omega)) ?_
  rw [nI_clamp (by omega), hf i y hi]
  refine xw_astoreR_n (a := y) dd_A_remove_17 (by decide) ?_
  refine xw_aloadR_n dd_A_remove_18 rfl ?_
  refine xw_aloadR_n dd_A_remove_19 rfl ?_
  refine xw_iload_n dd_A_remove_20 rfl ?_
  refine xw_cl0 (ct_A_fastRemove hA0 ho hil) (iv_A_remove_21 h1) ok_A_fastRemove rfl rfl rfl ?_ (fun _ _ _ q => by cases q.1)
  rintro v' h6 z2 ⟨hv', rfl, q1, q2⟩
  cases hv'
  refine xw_aloadR_n (a := y) dd_A_remove_24 rfl ?_
  exact xw_aretR dd_A_remove_25 rfl (Or.inl ⟨_, rfl⟩) ⟨rfl, rfl, q1, q2⟩
def xq_clr (G : xa_G) (h : xa_H) (sz a ea cap : Nat) : Outcome → xa_H → Nat → Prop := fun o h' z => o = .returned none ∧ z = sz ∧ al_x G h' a ea cap [] ∧ ∀ b, b ≠ a → (b ≠ ea ∨ cap = 0) → h' b = h b
theorem ct_A_clear {a ea cap : Nat} {xs : List Nat} (hA : al_x G h a ea cap xs) : xa_T G mm_A_clear 0 0 0 [.ref a] h sz (xq_clr G h sz a ea cap) := by
  have hne := hA.ne
  obtain ⟨hBa, hcap, f, ⟨⟨mc, h1⟩, h2, h3, h4⟩, hf⟩ := hA
  have loop : ∀ (k i : Nat) (h6 : xa_H) (m2 : Int32) (g : Nat → Option Nat), i + k = xs.length → h6 a = some (.inr (8, [.int m2, .ref ea, .int (nI 0)])) → h6 ea = some (xr_q 3 cap g) → (∀ b, b ≠ a → (b ≠ ea ∨ cap = 0) → h6 b = h b) → xa_W G mm_A_clear 0 0 0 27 [some (.ref a), some (.ref ea), some (.int (nI xs.length)), some (.int (nI i))] [] h6 sz (xq_clr G h sz a ea cap) := by
    intro k
    induction k with
    | zero =>
      intro i h6 m2 g hk k1 k2 k3
      refine xw_iload_n dd_A_clear_27 rfl ?_
      refine xw_iload_n dd_A_clear_28 rfl ?_
      refine xw_icmp_ge 42 dd_A_clear_29 (by decide) (fun hc => ?_) (fun hc => absurd (nI_le (by omega) (by omega)) hc)
      exact xw_vret dd_A_clear_42 rfl ⟨rfl, rfl, ⟨hBa, hcap, g, ⟨⟨m2, k1⟩, k2, Nat.zero_le _, h4⟩, fun i y hy => by simp at hy⟩, k3⟩
    | succ k ih =>
      intro i h6 m2 g hk k1 k2 k3
      refine xw_iload_n dd_A_clear_27 rfl ?_
      refine xw_iload_n dd_A_clear_28 rfl ?_
      refine xw_icmp_ge 42 dd_A_clear_29 (by decide) (fun hc => absurd hc (nI_ge (by omega) (by omega))) (fun hc => ?_)
      refine xw_aloadR_n dd_A_clear_32 rfl ?_
      refine xw_iload_n dd_A_clear_33 rfl ?_
      refine xw_null dd_A_clear_34 ?_
      refine xw_aastNA (t := 3) rfl dd_A_clear_35 k2 (vp_in_nI (by omega) (by omega)) (by omega) (fun h8 hn8 hf8 => ?_)
      refine xw_iinc dd_A_clear_36 rfl (nI_1 i) (by decide) ?_
      refine xw_goto 27 dd_A_clear_39 (by decide) ?_
      exact ih (i + 1) h8 m2 _ (by omega) ((hf8 a hne).trans k1) hn8 (fun b b1 b2 => (hf8 b (b2.resolve_right (by omega))).trans (k3 b b1 b2))
  refine xt_o ok_A_clear rfl rfl ?_
  refine xw_aloadR_n dd_A_clear_0 rfl ?_
  refine xw_dup dd_A_clear_1 rfl ?_
  refine xw_get fl_A_63 dd_A_clear_2 h1 rfl ?_
  refine xw_iconst 1 dd_A_clear_5 (by decide) ?_
  refine xw_iadd dd_A_clear_6 ?_
  refine xw_putA fl_A_63 fz_A_63 (by decide) dd_A_clear_7 h1 rfl hBa rfl rfl (fun h5 hn5 hf5 => ?_)
  refine xw_aloadR_n dd_A_clear_10 rfl ?_
  refine xw_get fl_A_9 dd_A_clear_11 hn5 rfl ?_
  refine xw_astoreR_n dd_A_clear_14 (by decide) ?_
  refine xw_aloadR_n dd_A_clear_15 rfl ?_
  refine xw_get fl_A_48 dd_A_clear_16 hn5 rfl ?_
  refine xw_istore_n dd_A_clear_19 (by decide) ?_
  refine xw_aloadR_n dd_A_clear_20 rfl ?_
  refine xw_iconst 0 dd_A_clear_21 (by decide) ?_
  refine xw_dup_x1 dd_A_clear_22 rfl rfl ?_
  refine xw_putA fl_A_48 fz_A_48 (by decide) dd_A_clear_23 hn5 rfl hBa rfl rfl (fun h6 hn6 hf6 => ?_)
  refine xw_istore_n dd_A_clear_26 (by decide) ?_
  exact loop xs.length 0 h6 _ f (by omega) hn6 ((hf6 ea (fun e => hne e.symm)).trans ((hf5 ea (fun e => hne e.symm)).trans h2)) (fun b b1 _ => (hf6 b b1).trans (hf5 b b1))
theorem ct_C_init {a : Nat} : xa_T G mm_C_init 1 0 0 [.ref a] h sz (xq_same h sz none) := by
  refine xt_o ok_C_init rfl rfl ?_
  refine xw_aloadR_n dd_C_init_0 rfl ?_
  refine xw_objInit iw_58 wo_in wo_co (by decide) (by decide) dd_C_init_1 ?_
  exact xw_vret dd_C_init_4 rfl ⟨rfl, rfl, rfl⟩
theorem ct_B_init {a : Nat} {fs : List Value} {f1 f2 f0 : Value} (ha : h a = some (.inr (8, [f0, f1, f2]))) (hBa : G.2.2.1 ≤ a) : xa_T G mm_B_init 2 0 0 [.ref a] h sz (fun o h' z => o = .returned none ∧ z = sz ∧ h' a = some (.inr (8, [.int 0, f1, f2])) ∧ ∀ b, b ≠ a → h' b = h b) := by
  refine xt_o ok_B_init rfl rfl ?_
  refine xw_aloadR_n dd_B_init_0 rfl ?_
  refine xw_cl0 ct_C_init iv_B_init_1 ok_C_init rfl rfl rfl ?_ (fun _ _ _ q => by cases q.1)
  rintro v' h' z1 ⟨hv', rfl, rfl⟩
  cases hv'
  refine xw_aloadR_n dd_B_init_4 rfl ?_
  refine xw_iconst 0 dd_B_init_5 (by decide) ?_
  refine xw_putA fl_B_7 fz_B_7 (by decide) dd_B_init_6 ha rfl hBa rfl rfl (fun h5 hn5 hf5 => ?_)
  exact xw_vret dd_B_init_9 rfl ⟨rfl, rfl, hn5, hf5⟩
/-- a new list -/
theorem ct_A_init {a : Nat} {f : Nat → Option Nat} {f1 f0 : Value} (ha : h a = some (.inr (8, [f0, f1, .int 0]))) (hBa : G.2.2.1 ≤ a) (hu : h G.2.2.2.1 = some (xr_q 3 0 f)) : xa_T G mm_A_init 3 0 0 [.ref a] h sz (fun o h' z => o = .returned none ∧ z = sz ∧ al_x G h' a G.2.2.2.1 0 [] ∧ ∀ b, b ≠ a → h' b = h b) := by
  refine xt_o ok_A_init rfl rfl ?_
  refine xw_aloadR_n dd_A_init_0 rfl ?_
  refine xw_cl0 (ct_B_init (fs := []) ha hBa) iv_A_init_1 ok_B_init rfl rfl rfl ?_ (fun _ _ _ q => by cases q.1)
  rintro v' h' z1 ⟨hv', rfl, k1, k2⟩
  cases hv'
  refine xw_aloadR_n dd_A_init_4 rfl ?_
  refine xw_empty iw_59 dd_A_init_5 ?_
  refine xw_putA fl_A_9 fz_A_9 (by decide) dd_A_init_8 k1 rfl hBa rfl rfl (fun h5 hn5 hf5 => ?_)
  have hne : G.2.2.2.1 ≠ a := fun e => by
    rw [e, ha] at hu
    cases hu
  exact xw_vret dd_A_init_11 rfl ⟨rfl, rfl, ⟨hBa, Or.inl ⟨rfl, rfl⟩, f, ⟨⟨0, hn5⟩, (hf5 _ hne).trans ((k2 _ hne).trans hu), Nat.le_refl _, by decide⟩, fun i y hy => by simp at hy⟩, fun b b1 => (hf5 b b1).trans (k2 b b1)⟩
end AU
end
section
/-! names, by program (wip/whole/mknames.py 16.names.lean.txt E,N,R,G,F,H) -/
theorem iw_2 : Cond.initialized "NotedVolume$FileTable" ∈ xv_T := xv_in (List.mem_append_right _ (List.mem_of_getElem? (i := 2) (by decide +kernel))) (by decide +kernel)
theorem iw_6 : Cond.initialized "NotedVolume$Ring" ∈ xv_T := xv_in (List.mem_append_right _ (List.mem_of_getElem? (i := 6) (by decide +kernel))) (by decide +kernel)
theorem iw_7 : Cond.initialized "NotedVolume$Gatherings" ∈ xv_T := xv_in (List.mem_append_right _ (List.mem_of_getElem? (i := 7) (by decide +kernel))) (by decide +kernel)
theorem iw_19 : Cond.initialized "NotedVolume$Entry" ∈ xv_T := xv_in (List.mem_append_right _ (List.mem_of_getElem? (i := 19) (by decide +kernel))) (by decide +kernel)
theorem iw_20 : Cond.initialized "NotedVolume$Note" ∈ xv_T := xv_in (List.mem_append_right _ (List.mem_of_getElem? (i := 20) (by decide +kernel))) (by decide +kernel)
theorem iw_22 : Cond.initialized "NotedVolume$Gathering" ∈ xv_T := xv_in (List.mem_append_right _ (List.mem_of_getElem? (i := 22) (by decide +kernel))) (by decide +kernel)
theorem iw_45 : Cond.code ⟨"NotedVolume$FileTable", "<init>", "(I)V"⟩ prog_3_method_1_code 2 none ∈ xv_T := xv_in (List.mem_append_right _ (List.mem_of_getElem? (i := 45) (by decide +kernel))) (by decide +kernel)
theorem iw_46 : Cond.methodLink "NotedVolume$FileTable" 1 ⟨"java/lang/Object", "<init>", "()V"⟩ ∈ xv_T := xv_in (List.mem_append_right _ (List.mem_of_getElem? (i := 46) (by decide +kernel))) (by decide +kernel)
theorem iw_47 : Cond.classLink "NotedVolume$FileTable" 7 "java/util/ArrayList" ∈ xv_T := xv_in (List.mem_append_right _ (List.mem_of_getElem? (i := 47) (by decide +kernel))) (by decide +kernel)
theorem iw_48 : Cond.instantiable "java/util/ArrayList" 3 ∈ xv_T := xv_in (List.mem_append_right _ (List.mem_of_getElem? (i := 48) (by decide +kernel))) (by decide +kernel)
theorem iw_49 : Cond.methodLink "NotedVolume$FileTable" 9 ⟨"java/util/ArrayList", "<init>", "()V"⟩ ∈ xv_T := xv_in (List.mem_append_right _ (List.mem_of_getElem? (i := 49) (by decide +kernel))) (by decide +kernel)
theorem iw_50 : Cond.instanceMethod ⟨"java/util/ArrayList", "<init>", "()V"⟩ ∈ xv_T := xv_in (List.mem_append_right _ (List.mem_of_getElem? (i := 50) (by decide +kernel))) (by decide +kernel)
theorem iw_73 : Cond.fieldLink "NotedVolume$FileTable" 10 "NotedVolume$FileTable" "rows" "Ljava/util/ArrayList;" ∈ xv_T := xv_in (List.mem_append_right _ (List.mem_of_getElem? (i := 73) (by decide +kernel))) (by decide +kernel)
theorem iw_74 : Cond.fieldLink "NotedVolume$FileTable" 16 "NotedVolume$FileTable" "most" "I" ∈ xv_T := xv_in (List.mem_append_right _ (List.mem_of_getElem? (i := 74) (by decide +kernel))) (by decide +kernel)
theorem iw_84 : Cond.code ⟨"NotedVolume$Ring", "<init>", "()V"⟩ prog_7_method_1_code 1 none ∈ xv_T := xv_in (List.mem_append_right _ (List.mem_of_getElem? (i := 84) (by decide +kernel))) (by decide +kernel)
theorem iw_85 : Cond.methodLink "NotedVolume$Ring" 3 ⟨"java/lang/Object", "<init>", "()V"⟩ ∈ xv_T := xv_in (List.mem_append_right _ (List.mem_of_getElem? (i := 85) (by decide +kernel))) (by decide +kernel)
theorem iw_86 : Cond.classLink "NotedVolume$Ring" 9 "NotedVolume$Note" ∈ xv_T := xv_in (List.mem_append_right _ (List.mem_of_getElem? (i := 86) (by decide +kernel))) (by decide +kernel)
theorem iw_88 : Cond.fieldLink "NotedVolume$Ring" 11 "NotedVolume$Ring" "cells" "[LNotedVolume$Note;" ∈ xv_T := xv_in (List.mem_append_right _ (List.mem_of_getElem? (i := 88) (by decide +kernel))) (by decide +kernel)
theorem iw_89 : Cond.fieldLink "NotedVolume$Ring" 17 "NotedVolume$Ring" "next" "I" ∈ xv_T := xv_in (List.mem_append_right _ (List.mem_of_getElem? (i := 89) (by decide +kernel))) (by decide +kernel)
theorem iw_99 : Cond.code ⟨"NotedVolume$Gatherings", "<init>", "()V"⟩ prog_5_method_1_code 1 none ∈ xv_T := xv_in (List.mem_append_right _ (List.mem_of_getElem? (i := 99) (by decide +kernel))) (by decide +kernel)
theorem iw_100 : Cond.methodLink "NotedVolume$Gatherings" 3 ⟨"java/lang/Object", "<init>", "()V"⟩ ∈ xv_T := xv_in (List.mem_append_right _ (List.mem_of_getElem? (i := 100) (by decide +kernel))) (by decide +kernel)
theorem iw_101 : Cond.classLink "NotedVolume$Gatherings" 9 "java/util/ArrayList" ∈ xv_T := xv_in (List.mem_append_right _ (List.mem_of_getElem? (i := 101) (by decide +kernel))) (by decide +kernel)
theorem iw_102 : Cond.methodLink "NotedVolume$Gatherings" 11 ⟨"java/util/ArrayList", "<init>", "()V"⟩ ∈ xv_T := xv_in (List.mem_append_right _ (List.mem_of_getElem? (i := 102) (by decide +kernel))) (by decide +kernel)
theorem iw_103 : Cond.fieldLink "NotedVolume$Gatherings" 12 "NotedVolume$Gatherings" "open" "Ljava/util/ArrayList;" ∈ xv_T := xv_in (List.mem_append_right _ (List.mem_of_getElem? (i := 103) (by decide +kernel))) (by decide +kernel)
theorem iw_170 : Cond.code ⟨"NotedVolume$Gatherings", "count", "()I"⟩ prog_5_method_2_code 1 (some .int) ∈ xv_T := xv_in (List.mem_append_right _ (List.mem_of_getElem? (i := 170) (by decide +kernel))) (by decide +kernel)
theorem iw_171 : Cond.methodLink "NotedVolume$Gatherings" 18 ⟨"java/util/ArrayList", "size", "()I"⟩ ∈ xv_T := xv_in (List.mem_append_right _ (List.mem_of_getElem? (i := 171) (by decide +kernel))) (by decide +kernel)
theorem iw_172 : Cond.instanceMethod ⟨"java/util/ArrayList", "size", "()I"⟩ ∈ xv_T := xv_in (List.mem_append_right _ (List.mem_of_getElem? (i := 172) (by decide +kernel))) (by decide +kernel)
theorem iw_182 : Cond.code ⟨"NotedVolume$FileTable", "entryNamed", "(II)LNotedVolume$Entry;"⟩ prog_3_method_5_code 5 (some (.object "NotedVolume$Entry")) ∈ xv_T := xv_in (List.mem_append_right _ (List.mem_of_getElem? (i := 182) (by decide +kernel))) (by decide +kernel)
theorem iw_183 : Cond.methodLink "NotedVolume$FileTable" 20 ⟨"java/util/ArrayList", "size", "()I"⟩ ∈ xv_T := xv_in (List.mem_append_right _ (List.mem_of_getElem? (i := 183) (by decide +kernel))) (by decide +kernel)
theorem iw_184 : Cond.methodLink "NotedVolume$FileTable" 24 ⟨"java/util/ArrayList", "get", "(I)Ljava/lang/Object;"⟩ ∈ xv_T := xv_in (List.mem_append_right _ (List.mem_of_getElem? (i := 184) (by decide +kernel))) (by decide +kernel)
theorem iw_185 : Cond.instanceMethod ⟨"java/util/ArrayList", "get", "(I)Ljava/lang/Object;"⟩ ∈ xv_T := xv_in (List.mem_append_right _ (List.mem_of_getElem? (i := 185) (by decide +kernel))) (by decide +kernel)
theorem iw_198 : Cond.classLink "NotedVolume$FileTable" 28 "NotedVolume$Entry" ∈ xv_T := xv_in (List.mem_append_right _ (List.mem_of_getElem? (i := 198) (by decide +kernel))) (by decide +kernel)
theorem iw_206 : Cond.code ⟨"NotedVolume$FileTable", "count", "()I"⟩ prog_3_method_2_code 1 (some .int) ∈ xv_T := xv_in (List.mem_append_right _ (List.mem_of_getElem? (i := 206) (by decide +kernel))) (by decide +kernel)
theorem iw_212 : Cond.instanceMethod ⟨"NotedVolume$Ring", "leastKept", "()I"⟩ ∈ xv_T := xv_in (List.mem_append_right _ (List.mem_of_getElem? (i := 212) (by decide +kernel))) (by decide +kernel)
theorem iw_213 : Cond.selects "NotedVolume$Ring" ⟨"NotedVolume$Ring", "leastKept", "()I"⟩ ⟨"NotedVolume$Ring", "leastKept", "()I"⟩ ∈ xv_T := xv_in (List.mem_append_right _ (List.mem_of_getElem? (i := 213) (by decide +kernel))) (by decide +kernel)
theorem iw_214 : Cond.code ⟨"NotedVolume$Ring", "leastKept", "()I"⟩ prog_7_method_3_code 1 (some .int) ∈ xv_T := xv_in (List.mem_append_right _ (List.mem_of_getElem? (i := 214) (by decide +kernel))) (by decide +kernel)
theorem iw_220 : Cond.instanceMethod ⟨"NotedVolume$Ring", "nextSerial", "()I"⟩ ∈ xv_T := xv_in (List.mem_append_right _ (List.mem_of_getElem? (i := 220) (by decide +kernel))) (by decide +kernel)
theorem iw_221 : Cond.selects "NotedVolume$Ring" ⟨"NotedVolume$Ring", "nextSerial", "()I"⟩ ⟨"NotedVolume$Ring", "nextSerial", "()I"⟩ ∈ xv_T := xv_in (List.mem_append_right _ (List.mem_of_getElem? (i := 221) (by decide +kernel))) (by decide +kernel)
theorem iw_222 : Cond.code ⟨"NotedVolume$Ring", "nextSerial", "()I"⟩ prog_7_method_2_code 1 (some .int) ∈ xv_T := xv_in (List.mem_append_right _ (List.mem_of_getElem? (i := 222) (by decide +kernel))) (by decide +kernel)
theorem iw_230 : Cond.code ⟨"NotedVolume$Gatherings", "recall", "(LNotedVolume$Ring;)V"⟩ prog_5_method_9_code 4 none ∈ xv_T := xv_in (List.mem_append_right _ (List.mem_of_getElem? (i := 230) (by decide +kernel))) (by decide +kernel)
theorem iw_231 : Cond.methodLink "NotedVolume$Gatherings" 57 ⟨"java/util/ArrayList", "clear", "()V"⟩ ∈ xv_T := xv_in (List.mem_append_right _ (List.mem_of_getElem? (i := 231) (by decide +kernel))) (by decide +kernel)
theorem iw_232 : Cond.instanceMethod ⟨"java/util/ArrayList", "clear", "()V"⟩ ∈ xv_T := xv_in (List.mem_append_right _ (List.mem_of_getElem? (i := 232) (by decide +kernel))) (by decide +kernel)
theorem iw_235 : Cond.methodLink "NotedVolume$Gatherings" 60 ⟨"NotedVolume$Ring", "leastKept", "()I"⟩ ∈ xv_T := xv_in (List.mem_append_right _ (List.mem_of_getElem? (i := 235) (by decide +kernel))) (by decide +kernel)
theorem iw_236 : Cond.methodLink "NotedVolume$Gatherings" 65 ⟨"NotedVolume$Ring", "nextSerial", "()I"⟩ ∈ xv_T := xv_in (List.mem_append_right _ (List.mem_of_getElem? (i := 236) (by decide +kernel))) (by decide +kernel)
theorem iw_237 : Cond.methodLink "NotedVolume$Gatherings" 68 ⟨"NotedVolume$Ring", "noteAt", "(I)LNotedVolume$Note;"⟩ ∈ xv_T := xv_in (List.mem_append_right _ (List.mem_of_getElem? (i := 237) (by decide +kernel))) (by decide +kernel)
theorem iw_238 : Cond.instanceMethod ⟨"NotedVolume$Ring", "noteAt", "(I)LNotedVolume$Note;"⟩ ∈ xv_T := xv_in (List.mem_append_right _ (List.mem_of_getElem? (i := 238) (by decide +kernel))) (by decide +kernel)
theorem iw_239 : Cond.selects "NotedVolume$Ring" ⟨"NotedVolume$Ring", "noteAt", "(I)LNotedVolume$Note;"⟩ ⟨"NotedVolume$Ring", "noteAt", "(I)LNotedVolume$Note;"⟩ ∈ xv_T := xv_in (List.mem_append_right _ (List.mem_of_getElem? (i := 239) (by decide +kernel))) (by decide +kernel)
theorem iw_240 : Cond.code ⟨"NotedVolume$Ring", "noteAt", "(I)LNotedVolume$Note;"⟩ prog_7_method_4_code 2 (some (.object "NotedVolume$Note")) ∈ xv_T := xv_in (List.mem_append_right _ (List.mem_of_getElem? (i := 240) (by decide +kernel))) (by decide +kernel)
theorem iw_241 : Cond.methodLink "NotedVolume$Ring" 21 ⟨"NotedVolume$Ring", "leastKept", "()I"⟩ ∈ xv_T := xv_in (List.mem_append_right _ (List.mem_of_getElem? (i := 241) (by decide +kernel))) (by decide +kernel)
theorem iw_242 : Cond.methodLink "NotedVolume$Gatherings" 72 ⟨"NotedVolume$Note", "hasAny", "(I)Z"⟩ ∈ xv_T := xv_in (List.mem_append_right _ (List.mem_of_getElem? (i := 242) (by decide +kernel))) (by decide +kernel)
theorem iw_243 : Cond.instanceMethod ⟨"NotedVolume$Note", "hasAny", "(I)Z"⟩ ∈ xv_T := xv_in (List.mem_append_right _ (List.mem_of_getElem? (i := 243) (by decide +kernel))) (by decide +kernel)
theorem iw_244 : Cond.selects "NotedVolume$Note" ⟨"NotedVolume$Note", "hasAny", "(I)Z"⟩ ⟨"NotedVolume$Note", "hasAny", "(I)Z"⟩ ∈ xv_T := xv_in (List.mem_append_right _ (List.mem_of_getElem? (i := 244) (by decide +kernel))) (by decide +kernel)
theorem iw_245 : Cond.code ⟨"NotedVolume$Note", "hasAny", "(I)Z"⟩ prog_6_method_2_code 2 (some .boolean) ∈ xv_T := xv_in (List.mem_append_right _ (List.mem_of_getElem? (i := 245) (by decide +kernel))) (by decide +kernel)
theorem iw_246 : Cond.methodLink "NotedVolume$Gatherings" 87 ⟨"NotedVolume$Gatherings", "take", "(I)V"⟩ ∈ xv_T := xv_in (List.mem_append_right _ (List.mem_of_getElem? (i := 246) (by decide +kernel))) (by decide +kernel)
theorem iw_247 : Cond.instanceMethod ⟨"NotedVolume$Gatherings", "take", "(I)V"⟩ ∈ xv_T := xv_in (List.mem_append_right _ (List.mem_of_getElem? (i := 247) (by decide +kernel))) (by decide +kernel)
theorem iw_248 : Cond.selects "NotedVolume$Gatherings" ⟨"NotedVolume$Gatherings", "take", "(I)V"⟩ ⟨"NotedVolume$Gatherings", "take", "(I)V"⟩ ∈ xv_T := xv_in (List.mem_append_right _ (List.mem_of_getElem? (i := 248) (by decide +kernel))) (by decide +kernel)
theorem iw_249 : Cond.code ⟨"NotedVolume$Gatherings", "take", "(I)V"⟩ prog_5_method_7_code 3 none ∈ xv_T := xv_in (List.mem_append_right _ (List.mem_of_getElem? (i := 249) (by decide +kernel))) (by decide +kernel)
theorem iw_250 : Cond.methodLink "NotedVolume$Gatherings" 26 ⟨"java/util/ArrayList", "get", "(I)Ljava/lang/Object;"⟩ ∈ xv_T := xv_in (List.mem_append_right _ (List.mem_of_getElem? (i := 250) (by decide +kernel))) (by decide +kernel)
theorem iw_251 : Cond.classLink "NotedVolume$Gatherings" 30 "NotedVolume$Gathering" ∈ xv_T := xv_in (List.mem_append_right _ (List.mem_of_getElem? (i := 251) (by decide +kernel))) (by decide +kernel)
theorem iw_252 : Cond.methodLink "NotedVolume$Gatherings" 54 ⟨"java/util/ArrayList", "remove", "(I)Ljava/lang/Object;"⟩ ∈ xv_T := xv_in (List.mem_append_right _ (List.mem_of_getElem? (i := 252) (by decide +kernel))) (by decide +kernel)
theorem iw_253 : Cond.instanceMethod ⟨"java/util/ArrayList", "remove", "(I)Ljava/lang/Object;"⟩ ∈ xv_T := xv_in (List.mem_append_right _ (List.mem_of_getElem? (i := 253) (by decide +kernel))) (by decide +kernel)
theorem iw_263 : Cond.methodLink "NotedVolume$Gatherings" 91 ⟨"NotedVolume$Gatherings", "gather", "(II)I"⟩ ∈ xv_T := xv_in (List.mem_append_right _ (List.mem_of_getElem? (i := 263) (by decide +kernel))) (by decide +kernel)
theorem iw_264 : Cond.instanceMethod ⟨"NotedVolume$Gatherings", "gather", "(II)I"⟩ ∈ xv_T := xv_in (List.mem_append_right _ (List.mem_of_getElem? (i := 264) (by decide +kernel))) (by decide +kernel)
theorem iw_265 : Cond.selects "NotedVolume$Gatherings" ⟨"NotedVolume$Gatherings", "gather", "(II)I"⟩ ⟨"NotedVolume$Gatherings", "gather", "(II)I"⟩ ∈ xv_T := xv_in (List.mem_append_right _ (List.mem_of_getElem? (i := 265) (by decide +kernel))) (by decide +kernel)
theorem iw_266 : Cond.code ⟨"NotedVolume$Gatherings", "gather", "(II)I"⟩ prog_5_method_6_code 4 (some .int) ∈ xv_T := xv_in (List.mem_append_right _ (List.mem_of_getElem? (i := 266) (by decide +kernel))) (by decide +kernel)
theorem iw_267 : Cond.methodLink "NotedVolume$Gatherings" 36 ⟨"NotedVolume$Gatherings", "gatheringOf", "(I)LNotedVolume$Gathering;"⟩ ∈ xv_T := xv_in (List.mem_append_right _ (List.mem_of_getElem? (i := 267) (by decide +kernel))) (by decide +kernel)
theorem iw_268 : Cond.instanceMethod ⟨"NotedVolume$Gatherings", "gatheringOf", "(I)LNotedVolume$Gathering;"⟩ ∈ xv_T := xv_in (List.mem_append_right _ (List.mem_of_getElem? (i := 268) (by decide +kernel))) (by decide +kernel)
theorem iw_269 : Cond.selects "NotedVolume$Gatherings" ⟨"NotedVolume$Gatherings", "gatheringOf", "(I)LNotedVolume$Gathering;"⟩ ⟨"NotedVolume$Gatherings", "gatheringOf", "(I)LNotedVolume$Gathering;"⟩ ∈ xv_T := xv_in (List.mem_append_right _ (List.mem_of_getElem? (i := 269) (by decide +kernel))) (by decide +kernel)
theorem iw_270 : Cond.code ⟨"NotedVolume$Gatherings", "gatheringOf", "(I)LNotedVolume$Gathering;"⟩ prog_5_method_4_code 4 (some (.object "NotedVolume$Gathering")) ∈ xv_T := xv_in (List.mem_append_right _ (List.mem_of_getElem? (i := 270) (by decide +kernel))) (by decide +kernel)
theorem iw_271 : Cond.instantiable "NotedVolume$Gathering" 2 ∈ xv_T := xv_in (List.mem_append_right _ (List.mem_of_getElem? (i := 271) (by decide +kernel))) (by decide +kernel)
theorem iw_272 : Cond.methodLink "NotedVolume$Gatherings" 44 ⟨"NotedVolume$Gathering", "<init>", "(I)V"⟩ ∈ xv_T := xv_in (List.mem_append_right _ (List.mem_of_getElem? (i := 272) (by decide +kernel))) (by decide +kernel)
theorem iw_273 : Cond.instanceMethod ⟨"NotedVolume$Gathering", "<init>", "(I)V"⟩ ∈ xv_T := xv_in (List.mem_append_right _ (List.mem_of_getElem? (i := 273) (by decide +kernel))) (by decide +kernel)
theorem iw_274 : Cond.code ⟨"NotedVolume$Gathering", "<init>", "(I)V"⟩ prog_4_method_1_code 2 none ∈ xv_T := xv_in (List.mem_append_right _ (List.mem_of_getElem? (i := 274) (by decide +kernel))) (by decide +kernel)
theorem iw_275 : Cond.methodLink "NotedVolume$Gathering" 1 ⟨"java/lang/Object", "<init>", "()V"⟩ ∈ xv_T := xv_in (List.mem_append_right _ (List.mem_of_getElem? (i := 275) (by decide +kernel))) (by decide +kernel)
theorem iw_276 : Cond.fieldLink "NotedVolume$Gathering" 7 "NotedVolume$Gathering" "file" "I" ∈ xv_T := xv_in (List.mem_append_right _ (List.mem_of_getElem? (i := 276) (by decide +kernel))) (by decide +kernel)
theorem iw_277 : Cond.fieldLink "NotedVolume$Gatherings" 32 "NotedVolume$Gathering" "file" "I" ∈ xv_T := xv_in (List.mem_append_right _ (List.mem_of_getElem? (i := 277) (by decide +kernel))) (by decide +kernel)
theorem iw_279 : Cond.fieldLink "NotedVolume$Gatherings" 51 "NotedVolume$Gathering" "reasons" "I" ∈ xv_T := xv_in (List.mem_append_right _ (List.mem_of_getElem? (i := 279) (by decide +kernel))) (by decide +kernel)
theorem iw_286 : Cond.methodLink "NotedVolume$Gatherings" 47 ⟨"java/util/ArrayList", "add", "(Ljava/lang/Object;)Z"⟩ ∈ xv_T := xv_in (List.mem_append_right _ (List.mem_of_getElem? (i := 286) (by decide +kernel))) (by decide +kernel)
theorem iw_287 : Cond.instanceMethod ⟨"java/util/ArrayList", "add", "(Ljava/lang/Object;)Z"⟩ ∈ xv_T := xv_in (List.mem_append_right _ (List.mem_of_getElem? (i := 287) (by decide +kernel))) (by decide +kernel)
theorem iw_349 : Cond.instanceMethod ⟨"NotedVolume$Gatherings", "first", "()LNotedVolume$Gathering;"⟩ ∈ xv_T := xv_in (List.mem_append_right _ (List.mem_of_getElem? (i := 349) (by decide +kernel))) (by decide +kernel)
theorem iw_350 : Cond.selects "NotedVolume$Gatherings" ⟨"NotedVolume$Gatherings", "first", "()LNotedVolume$Gathering;"⟩ ⟨"NotedVolume$Gatherings", "first", "()LNotedVolume$Gathering;"⟩ ∈ xv_T := xv_in (List.mem_append_right _ (List.mem_of_getElem? (i := 350) (by decide +kernel))) (by decide +kernel)
theorem iw_351 : Cond.code ⟨"NotedVolume$Gatherings", "first", "()LNotedVolume$Gathering;"⟩ prog_5_method_3_code 1 (some (.object "NotedVolume$Gathering")) ∈ xv_T := xv_in (List.mem_append_right _ (List.mem_of_getElem? (i := 351) (by decide +kernel))) (by decide +kernel)
theorem iw_352 : Cond.methodLink "NotedVolume$Gatherings" 22 ⟨"java/util/ArrayList", "isEmpty", "()Z"⟩ ∈ xv_T := xv_in (List.mem_append_right _ (List.mem_of_getElem? (i := 352) (by decide +kernel))) (by decide +kernel)
theorem iw_353 : Cond.instanceMethod ⟨"java/util/ArrayList", "isEmpty", "()Z"⟩ ∈ xv_T := xv_in (List.mem_append_right _ (List.mem_of_getElem? (i := 353) (by decide +kernel))) (by decide +kernel)
theorem iw_363 : Cond.code ⟨"NotedVolume$FileTable", "entryOf", "(I)LNotedVolume$Entry;"⟩ prog_3_method_4_code 4 (some (.object "NotedVolume$Entry")) ∈ xv_T := xv_in (List.mem_append_right _ (List.mem_of_getElem? (i := 363) (by decide +kernel))) (by decide +kernel)
theorem iw_368 : Cond.code ⟨"NotedVolume$Entry", "<init>", "(IIIII)V"⟩ prog_2_method_1_code 6 none ∈ xv_T := xv_in (List.mem_append_right _ (List.mem_of_getElem? (i := 368) (by decide +kernel))) (by decide +kernel)
theorem iw_369 : Cond.methodLink "NotedVolume$Entry" 1 ⟨"java/lang/Object", "<init>", "()V"⟩ ∈ xv_T := xv_in (List.mem_append_right _ (List.mem_of_getElem? (i := 369) (by decide +kernel))) (by decide +kernel)
theorem iw_370 : Cond.fieldLink "NotedVolume$Entry" 7 "NotedVolume$Entry" "number" "I" ∈ xv_T := xv_in (List.mem_append_right _ (List.mem_of_getElem? (i := 370) (by decide +kernel))) (by decide +kernel)
theorem iw_372 : Cond.fieldLink "NotedVolume$FileTable" 30 "NotedVolume$Entry" "number" "I" ∈ xv_T := xv_in (List.mem_append_right _ (List.mem_of_getElem? (i := 372) (by decide +kernel))) (by decide +kernel)
theorem iw_373 : Cond.fieldLink "NotedVolume$Note" 17 "NotedVolume$Entry" "number" "I" ∈ xv_T := xv_in (List.mem_append_right _ (List.mem_of_getElem? (i := 373) (by decide +kernel))) (by decide +kernel)
theorem iw_375 : Cond.fieldLink "NotedVolume$Gatherings" 82 "NotedVolume$Entry" "number" "I" ∈ xv_T := xv_in (List.mem_append_right _ (List.mem_of_getElem? (i := 375) (by decide +kernel))) (by decide +kernel)
theorem iw_376 : Cond.fieldLink "NotedVolume$Entry" 13 "NotedVolume$Entry" "sort" "I" ∈ xv_T := xv_in (List.mem_append_right _ (List.mem_of_getElem? (i := 376) (by decide +kernel))) (by decide +kernel)
theorem iw_378 : Cond.fieldLink "NotedVolume$Entry" 16 "NotedVolume$Entry" "parent" "I" ∈ xv_T := xv_in (List.mem_append_right _ (List.mem_of_getElem? (i := 378) (by decide +kernel))) (by decide +kernel)
theorem iw_380 : Cond.fieldLink "NotedVolume$FileTable" 33 "NotedVolume$Entry" "parent" "I" ∈ xv_T := xv_in (List.mem_append_right _ (List.mem_of_getElem? (i := 380) (by decide +kernel))) (by decide +kernel)
theorem iw_381 : Cond.fieldLink "NotedVolume$Entry" 19 "NotedVolume$Entry" "name" "I" ∈ xv_T := xv_in (List.mem_append_right _ (List.mem_of_getElem? (i := 381) (by decide +kernel))) (by decide +kernel)
theorem iw_383 : Cond.fieldLink "NotedVolume$FileTable" 36 "NotedVolume$Entry" "name" "I" ∈ xv_T := xv_in (List.mem_append_right _ (List.mem_of_getElem? (i := 383) (by decide +kernel))) (by decide +kernel)
theorem iw_384 : Cond.fieldLink "NotedVolume$Entry" 22 "NotedVolume$Entry" "mark" "I" ∈ xv_T := xv_in (List.mem_append_right _ (List.mem_of_getElem? (i := 384) (by decide +kernel))) (by decide +kernel)
theorem iw_400 : Cond.code ⟨"NotedVolume$Ring", "append", "(LNotedVolume$Entry;I)V"⟩ prog_7_method_5_code 3 none ∈ xv_T := xv_in (List.mem_append_right _ (List.mem_of_getElem? (i := 400) (by decide +kernel))) (by decide +kernel)
theorem iw_401 : Cond.instantiable "NotedVolume$Note" 2 ∈ xv_T := xv_in (List.mem_append_right _ (List.mem_of_getElem? (i := 401) (by decide +kernel))) (by decide +kernel)
theorem iw_402 : Cond.methodLink "NotedVolume$Ring" 25 ⟨"NotedVolume$Note", "<init>", "(LNotedVolume$Entry;I)V"⟩ ∈ xv_T := xv_in (List.mem_append_right _ (List.mem_of_getElem? (i := 402) (by decide +kernel))) (by decide +kernel)
theorem iw_403 : Cond.instanceMethod ⟨"NotedVolume$Note", "<init>", "(LNotedVolume$Entry;I)V"⟩ ∈ xv_T := xv_in (List.mem_append_right _ (List.mem_of_getElem? (i := 403) (by decide +kernel))) (by decide +kernel)
theorem iw_404 : Cond.code ⟨"NotedVolume$Note", "<init>", "(LNotedVolume$Entry;I)V"⟩ prog_6_method_1_code 3 none ∈ xv_T := xv_in (List.mem_append_right _ (List.mem_of_getElem? (i := 404) (by decide +kernel))) (by decide +kernel)
theorem iw_405 : Cond.methodLink "NotedVolume$Note" 1 ⟨"java/lang/Object", "<init>", "()V"⟩ ∈ xv_T := xv_in (List.mem_append_right _ (List.mem_of_getElem? (i := 405) (by decide +kernel))) (by decide +kernel)
theorem iw_406 : Cond.fieldLink "NotedVolume$Note" 7 "NotedVolume$Note" "entry" "LNotedVolume$Entry;" ∈ xv_T := xv_in (List.mem_append_right _ (List.mem_of_getElem? (i := 406) (by decide +kernel))) (by decide +kernel)
theorem iw_408 : Cond.fieldLink "NotedVolume$Gatherings" 78 "NotedVolume$Note" "entry" "LNotedVolume$Entry;" ∈ xv_T := xv_in (List.mem_append_right _ (List.mem_of_getElem? (i := 408) (by decide +kernel))) (by decide +kernel)
theorem iw_409 : Cond.fieldLink "NotedVolume$Note" 13 "NotedVolume$Note" "reasons" "I" ∈ xv_T := xv_in (List.mem_append_right _ (List.mem_of_getElem? (i := 409) (by decide +kernel))) (by decide +kernel)
theorem iw_410 : Cond.fieldLink "NotedVolume$Gatherings" 90 "NotedVolume$Note" "reasons" "I" ∈ xv_T := xv_in (List.mem_append_right _ (List.mem_of_getElem? (i := 410) (by decide +kernel))) (by decide +kernel)
theorem iw_582 : Cond.code ⟨"NotedVolume$Gatherings", "inTheWayOf", "(I)LNotedVolume$Gathering;"⟩ prog_5_method_5_code 2 (some (.object "NotedVolume$Gathering")) ∈ xv_T := xv_in (List.mem_append_right _ (List.mem_of_getElem? (i := 582) (by decide +kernel))) (by decide +kernel)
theorem iw_583 : Cond.methodLink "NotedVolume$Gatherings" 40 ⟨"NotedVolume$Gatherings", "first", "()LNotedVolume$Gathering;"⟩ ∈ xv_T := xv_in (List.mem_append_right _ (List.mem_of_getElem? (i := 583) (by decide +kernel))) (by decide +kernel)
theorem iw_595 : Cond.code ⟨"NotedVolume$Gatherings", "forget", "()V"⟩ prog_5_method_8_code 1 none ∈ xv_T := xv_in (List.mem_append_right _ (List.mem_of_getElem? (i := 595) (by decide +kernel))) (by decide +kernel)
theorem iw_600 : Cond.code ⟨"NotedVolume$FileTable", "put", "(LNotedVolume$Entry;)V"⟩ prog_3_method_7_code 3 none ∈ xv_T := xv_in (List.mem_append_right _ (List.mem_of_getElem? (i := 600) (by decide +kernel))) (by decide +kernel)
theorem iw_601 : Cond.methodLink "NotedVolume$FileTable" 39 ⟨"java/util/ArrayList", "set", "(ILjava/lang/Object;)Ljava/lang/Object;"⟩ ∈ xv_T := xv_in (List.mem_append_right _ (List.mem_of_getElem? (i := 601) (by decide +kernel))) (by decide +kernel)
theorem iw_602 : Cond.instanceMethod ⟨"java/util/ArrayList", "set", "(ILjava/lang/Object;)Ljava/lang/Object;"⟩ ∈ xv_T := xv_in (List.mem_append_right _ (List.mem_of_getElem? (i := 602) (by decide +kernel))) (by decide +kernel)
theorem iw_605 : Cond.methodLink "NotedVolume$FileTable" 43 ⟨"java/util/ArrayList", "add", "(ILjava/lang/Object;)V"⟩ ∈ xv_T := xv_in (List.mem_append_right _ (List.mem_of_getElem? (i := 605) (by decide +kernel))) (by decide +kernel)
theorem iw_606 : Cond.instanceMethod ⟨"java/util/ArrayList", "add", "(ILjava/lang/Object;)V"⟩ ∈ xv_T := xv_in (List.mem_append_right _ (List.mem_of_getElem? (i := 606) (by decide +kernel))) (by decide +kernel)
theorem iw_893 : Cond.code ⟨"NotedVolume$FileTable", "hasFilesIn", "(I)Z"⟩ prog_3_method_6_code 3 (some .boolean) ∈ xv_T := xv_in (List.mem_append_right _ (List.mem_of_getElem? (i := 893) (by decide +kernel))) (by decide +kernel)
theorem iw_898 : Cond.code ⟨"NotedVolume$FileTable", "drop", "(I)V"⟩ prog_3_method_8_code 3 none ∈ xv_T := xv_in (List.mem_append_right _ (List.mem_of_getElem? (i := 898) (by decide +kernel))) (by decide +kernel)
theorem iw_899 : Cond.methodLink "NotedVolume$FileTable" 47 ⟨"java/util/ArrayList", "remove", "(I)Ljava/lang/Object;"⟩ ∈ xv_T := xv_in (List.mem_append_right _ (List.mem_of_getElem? (i := 899) (by decide +kernel))) (by decide +kernel)
theorem iw_924 : Cond.instanceMethod ⟨"NotedVolume$Entry", "item", "(I)I"⟩ ∈ xv_T := xv_in (List.mem_append_right _ (List.mem_of_getElem? (i := 924) (by decide +kernel))) (by decide +kernel)
theorem iw_925 : Cond.selects "NotedVolume$Entry" ⟨"NotedVolume$Entry", "item", "(I)I"⟩ ⟨"NotedVolume$Entry", "item", "(I)I"⟩ ∈ xv_T := xv_in (List.mem_append_right _ (List.mem_of_getElem? (i := 925) (by decide +kernel))) (by decide +kernel)
theorem iw_926 : Cond.code ⟨"NotedVolume$Entry", "item", "(I)I"⟩ prog_2_method_2_code 2 (some .int) ∈ xv_T := xv_in (List.mem_append_right _ (List.mem_of_getElem? (i := 926) (by decide +kernel))) (by decide +kernel)
theorem iw_939 : Cond.code ⟨"NotedVolume$Note", "item", "(I)I"⟩ prog_6_method_3_code 2 (some .int) ∈ xv_T := xv_in (List.mem_append_right _ (List.mem_of_getElem? (i := 939) (by decide +kernel))) (by decide +kernel)
theorem iw_940 : Cond.methodLink "NotedVolume$Note" 22 ⟨"NotedVolume$Entry", "item", "(I)I"⟩ ∈ xv_T := xv_in (List.mem_append_right _ (List.mem_of_getElem? (i := 940) (by decide +kernel))) (by decide +kernel)
theorem iw_1006 : Cond.code ⟨"NotedVolume$FileTable", "entryAbove", "(I)LNotedVolume$Entry;"⟩ prog_3_method_3_code 4 (some (.object "NotedVolume$Entry")) ∈ xv_T := xv_in (List.mem_append_right _ (List.mem_of_getElem? (i := 1006) (by decide +kernel))) (by decide +kernel)
theorem iw_1035 : Cond.code ⟨"NotedVolume$FileTable", "dropRange", "(II)V"⟩ prog_3_method_9_code 5 none ∈ xv_T := xv_in (List.mem_append_right _ (List.mem_of_getElem? (i := 1035) (by decide +kernel))) (by decide +kernel)
theorem iw_1067 : Cond.code ⟨"NotedVolume$FileTable", "isLike", "(LNotedVolume$FileTable;)Z"⟩ prog_3_method_10_code 3 (some .boolean) ∈ xv_T := xv_in (List.mem_append_right _ (List.mem_of_getElem? (i := 1067) (by decide +kernel))) (by decide +kernel)
theorem iw_1068 : Cond.methodLink "NotedVolume$FileTable" 50 ⟨"NotedVolume$Entry", "isLike", "(LNotedVolume$Entry;)Z"⟩ ∈ xv_T := xv_in (List.mem_append_right _ (List.mem_of_getElem? (i := 1068) (by decide +kernel))) (by decide +kernel)
theorem iw_1069 : Cond.instanceMethod ⟨"NotedVolume$Entry", "isLike", "(LNotedVolume$Entry;)Z"⟩ ∈ xv_T := xv_in (List.mem_append_right _ (List.mem_of_getElem? (i := 1069) (by decide +kernel))) (by decide +kernel)
theorem iw_1070 : Cond.selects "NotedVolume$Entry" ⟨"NotedVolume$Entry", "isLike", "(LNotedVolume$Entry;)Z"⟩ ⟨"NotedVolume$Entry", "isLike", "(LNotedVolume$Entry;)Z"⟩ ∈ xv_T := xv_in (List.mem_append_right _ (List.mem_of_getElem? (i := 1070) (by decide +kernel))) (by decide +kernel)
theorem iw_1071 : Cond.code ⟨"NotedVolume$Entry", "isLike", "(LNotedVolume$Entry;)Z"⟩ prog_2_method_3_code 2 (some .boolean) ∈ xv_T := xv_in (List.mem_append_right _ (List.mem_of_getElem? (i := 1071) (by decide +kernel))) (by decide +kernel)
def mm_E_init : xa_M := (⟨"NotedVolume$Entry", "<init>", "(IIIII)V"⟩, prog_2_method_1_code, 6, none, [])
theorem ok_E_init : xa_O mm_E_init := ⟨by decide, Or.inr ⟨rfl, iw_368⟩, iw_19, by decide, by decide⟩
def mm_E_isLike : xa_M := (⟨"NotedVolume$Entry", "isLike", "(LNotedVolume$Entry;)Z"⟩, prog_2_method_3_code, 2, (some .boolean), [])
theorem ok_E_isLike : xa_O mm_E_isLike := ⟨by decide, Or.inr ⟨rfl, iw_1071⟩, iw_19, by decide, by decide⟩
def mm_E_item : xa_M := (⟨"NotedVolume$Entry", "item", "(I)I"⟩, prog_2_method_2_code, 2, (some .int), [])
theorem ok_E_item : xa_O mm_E_item := ⟨by decide, Or.inr ⟨rfl, iw_926⟩, iw_19, by decide, by decide⟩
def mm_N_init : xa_M := (⟨"NotedVolume$Note", "<init>", "(LNotedVolume$Entry;I)V"⟩, prog_6_method_1_code, 3, none, [])
theorem ok_N_init : xa_O mm_N_init := ⟨by decide, Or.inr ⟨rfl, iw_404⟩, iw_20, by decide, by decide⟩
def mm_N_hasAny : xa_M := (⟨"NotedVolume$Note", "hasAny", "(I)Z"⟩, prog_6_method_2_code, 2, (some .boolean), [])
theorem ok_N_hasAny : xa_O mm_N_hasAny := ⟨by decide, Or.inr ⟨rfl, iw_245⟩, iw_20, by decide, by decide⟩
def mm_N_item : xa_M := (⟨"NotedVolume$Note", "item", "(I)I"⟩, prog_6_method_3_code, 2, (some .int), [])
theorem ok_N_item : xa_O mm_N_item := ⟨by decide, Or.inr ⟨rfl, iw_939⟩, iw_20, by decide, by decide⟩
def mm_R_init : xa_M := (⟨"NotedVolume$Ring", "<init>", "()V"⟩, prog_7_method_1_code, 1, none, [])
theorem ok_R_init : xa_O mm_R_init := ⟨by decide, Or.inr ⟨rfl, iw_84⟩, iw_6, by decide, by decide⟩
def mm_R_append : xa_M := (⟨"NotedVolume$Ring", "append", "(LNotedVolume$Entry;I)V"⟩, prog_7_method_5_code, 3, none, [])
theorem ok_R_append : xa_O mm_R_append := ⟨by decide, Or.inr ⟨rfl, iw_400⟩, iw_6, by decide, by decide⟩
def mm_R_leastKept : xa_M := (⟨"NotedVolume$Ring", "leastKept", "()I"⟩, prog_7_method_3_code, 1, (some .int), [])
theorem ok_R_leastKept : xa_O mm_R_leastKept := ⟨by decide, Or.inr ⟨rfl, iw_214⟩, iw_6, by decide, by decide⟩
def mm_R_nextSerial : xa_M := (⟨"NotedVolume$Ring", "nextSerial", "()I"⟩, prog_7_method_2_code, 1, (some .int), [])
theorem ok_R_nextSerial : xa_O mm_R_nextSerial := ⟨by decide, Or.inr ⟨rfl, iw_222⟩, iw_6, by decide, by decide⟩
def mm_R_noteAt : xa_M := (⟨"NotedVolume$Ring", "noteAt", "(I)LNotedVolume$Note;"⟩, prog_7_method_4_code, 2, (some (.object "NotedVolume$Note")), [])
theorem ok_R_noteAt : xa_O mm_R_noteAt := ⟨by decide, Or.inr ⟨rfl, iw_240⟩, iw_6, by decide, by decide⟩
def mm_G_init : xa_M := (⟨"NotedVolume$Gathering", "<init>", "(I)V"⟩, prog_4_method_1_code, 2, none, [])
theorem ok_G_init : xa_O mm_G_init := ⟨by decide, Or.inr ⟨rfl, iw_274⟩, iw_22, by decide, by decide⟩
def mm_F_init : xa_M := (⟨"NotedVolume$FileTable", "<init>", "(I)V"⟩, prog_3_method_1_code, 2, none, [])
theorem ok_F_init : xa_O mm_F_init := ⟨by decide, Or.inr ⟨rfl, iw_45⟩, iw_2, by decide, by decide⟩
def mm_F_count : xa_M := (⟨"NotedVolume$FileTable", "count", "()I"⟩, prog_3_method_2_code, 1, (some .int), [])
theorem ok_F_count : xa_O mm_F_count := ⟨by decide, Or.inr ⟨rfl, iw_206⟩, iw_2, by decide, by decide⟩
def mm_F_drop : xa_M := (⟨"NotedVolume$FileTable", "drop", "(I)V"⟩, prog_3_method_8_code, 3, none, [])
theorem ok_F_drop : xa_O mm_F_drop := ⟨by decide, Or.inr ⟨rfl, iw_898⟩, iw_2, by decide, by decide⟩
def mm_F_dropRange : xa_M := (⟨"NotedVolume$FileTable", "dropRange", "(II)V"⟩, prog_3_method_9_code, 5, none, [])
theorem ok_F_dropRange : xa_O mm_F_dropRange := ⟨by decide, Or.inr ⟨rfl, iw_1035⟩, iw_2, by decide, by decide⟩
def mm_F_entryAbove : xa_M := (⟨"NotedVolume$FileTable", "entryAbove", "(I)LNotedVolume$Entry;"⟩, prog_3_method_3_code, 4, (some (.object "NotedVolume$Entry")), [])
theorem ok_F_entryAbove : xa_O mm_F_entryAbove := ⟨by decide, Or.inr ⟨rfl, iw_1006⟩, iw_2, by decide, by decide⟩
def mm_F_entryNamed : xa_M := (⟨"NotedVolume$FileTable", "entryNamed", "(II)LNotedVolume$Entry;"⟩, prog_3_method_5_code, 5, (some (.object "NotedVolume$Entry")), [])
theorem ok_F_entryNamed : xa_O mm_F_entryNamed := ⟨by decide, Or.inr ⟨rfl, iw_182⟩, iw_2, by decide, by decide⟩
def mm_F_entryOf : xa_M := (⟨"NotedVolume$FileTable", "entryOf", "(I)LNotedVolume$Entry;"⟩, prog_3_method_4_code, 4, (some (.object "NotedVolume$Entry")), [])
theorem ok_F_entryOf : xa_O mm_F_entryOf := ⟨by decide, Or.inr ⟨rfl, iw_363⟩, iw_2, by decide, by decide⟩
def mm_F_hasFilesIn : xa_M := (⟨"NotedVolume$FileTable", "hasFilesIn", "(I)Z"⟩, prog_3_method_6_code, 3, (some .boolean), [])
theorem ok_F_hasFilesIn : xa_O mm_F_hasFilesIn := ⟨by decide, Or.inr ⟨rfl, iw_893⟩, iw_2, by decide, by decide⟩
def mm_F_isLike : xa_M := (⟨"NotedVolume$FileTable", "isLike", "(LNotedVolume$FileTable;)Z"⟩, prog_3_method_10_code, 3, (some .boolean), [])
theorem ok_F_isLike : xa_O mm_F_isLike := ⟨by decide, Or.inr ⟨rfl, iw_1067⟩, iw_2, by decide, by decide⟩
def mm_F_put : xa_M := (⟨"NotedVolume$FileTable", "put", "(LNotedVolume$Entry;)V"⟩, prog_3_method_7_code, 3, none, [])
theorem ok_F_put : xa_O mm_F_put := ⟨by decide, Or.inr ⟨rfl, iw_600⟩, iw_2, by decide, by decide⟩
def mm_H_init : xa_M := (⟨"NotedVolume$Gatherings", "<init>", "()V"⟩, prog_5_method_1_code, 1, none, [])
theorem ok_H_init : xa_O mm_H_init := ⟨by decide, Or.inr ⟨rfl, iw_99⟩, iw_7, by decide, by decide⟩
def mm_H_count : xa_M := (⟨"NotedVolume$Gatherings", "count", "()I"⟩, prog_5_method_2_code, 1, (some .int), [])
theorem ok_H_count : xa_O mm_H_count := ⟨by decide, Or.inr ⟨rfl, iw_170⟩, iw_7, by decide, by decide⟩
def mm_H_first : xa_M := (⟨"NotedVolume$Gatherings", "first", "()LNotedVolume$Gathering;"⟩, prog_5_method_3_code, 1, (some (.object "NotedVolume$Gathering")), [])
theorem ok_H_first : xa_O mm_H_first := ⟨by decide, Or.inr ⟨rfl, iw_351⟩, iw_7, by decide, by decide⟩
def mm_H_forget : xa_M := (⟨"NotedVolume$Gatherings", "forget", "()V"⟩, prog_5_method_8_code, 1, none, [])
theorem ok_H_forget : xa_O mm_H_forget := ⟨by decide, Or.inr ⟨rfl, iw_595⟩, iw_7, by decide, by decide⟩
def mm_H_gather : xa_M := (⟨"NotedVolume$Gatherings", "gather", "(II)I"⟩, prog_5_method_6_code, 4, (some .int), [])
theorem ok_H_gather : xa_O mm_H_gather := ⟨by decide, Or.inr ⟨rfl, iw_266⟩, iw_7, by decide, by decide⟩
def mm_H_gatheringOf : xa_M := (⟨"NotedVolume$Gatherings", "gatheringOf", "(I)LNotedVolume$Gathering;"⟩, prog_5_method_4_code, 4, (some (.object "NotedVolume$Gathering")), [])
theorem ok_H_gatheringOf : xa_O mm_H_gatheringOf := ⟨by decide, Or.inr ⟨rfl, iw_270⟩, iw_7, by decide, by decide⟩
def mm_H_inTheWayOf : xa_M := (⟨"NotedVolume$Gatherings", "inTheWayOf", "(I)LNotedVolume$Gathering;"⟩, prog_5_method_5_code, 2, (some (.object "NotedVolume$Gathering")), [])
theorem ok_H_inTheWayOf : xa_O mm_H_inTheWayOf := ⟨by decide, Or.inr ⟨rfl, iw_582⟩, iw_7, by decide, by decide⟩
def mm_H_recall : xa_M := (⟨"NotedVolume$Gatherings", "recall", "(LNotedVolume$Ring;)V"⟩, prog_5_method_9_code, 4, none, [])
theorem ok_H_recall : xa_O mm_H_recall := ⟨by decide, Or.inr ⟨rfl, iw_230⟩, iw_7, by decide, by decide⟩
def mm_H_take : xa_M := (⟨"NotedVolume$Gatherings", "take", "(I)V"⟩, prog_5_method_7_code, 3, none, [])
theorem ok_H_take : xa_O mm_H_take := ⟨by decide, Or.inr ⟨rfl, iw_249⟩, iw_7, by decide, by decide⟩
theorem dd_E_init_0 : decode mm_E_init.2.1 0 = .ok (.aload_n 0, 1) := by decide +kernel
theorem dd_E_init_1 : decode mm_E_init.2.1 1 = .ok (.invokespecial 1, 3) := by decide +kernel
theorem dd_E_init_4 : decode mm_E_init.2.1 4 = .ok (.aload_n 0, 1) := by decide +kernel
theorem dd_E_init_5 : decode mm_E_init.2.1 5 = .ok (.iload_n 1, 1) := by decide +kernel
theorem dd_E_init_6 : decode mm_E_init.2.1 6 = .ok (.putfield 7, 3) := by decide +kernel
theorem dd_E_init_9 : decode mm_E_init.2.1 9 = .ok (.aload_n 0, 1) := by decide +kernel
theorem dd_E_init_10 : decode mm_E_init.2.1 10 = .ok (.iload_n 2, 1) := by decide +kernel
theorem dd_E_init_11 : decode mm_E_init.2.1 11 = .ok (.putfield 13, 3) := by decide +kernel
theorem dd_E_init_14 : decode mm_E_init.2.1 14 = .ok (.aload_n 0, 1) := by decide +kernel
theorem dd_E_init_15 : decode mm_E_init.2.1 15 = .ok (.iload_n 3, 1) := by decide +kernel
theorem dd_E_init_16 : decode mm_E_init.2.1 16 = .ok (.putfield 16, 3) := by decide +kernel
theorem dd_E_init_19 : decode mm_E_init.2.1 19 = .ok (.aload_n 0, 1) := by decide +kernel
theorem dd_E_init_20 : decode mm_E_init.2.1 20 = .ok (.iload 4, 2) := by decide +kernel
theorem dd_E_init_22 : decode mm_E_init.2.1 22 = .ok (.putfield 19, 3) := by decide +kernel
theorem dd_E_init_25 : decode mm_E_init.2.1 25 = .ok (.aload_n 0, 1) := by decide +kernel
theorem dd_E_init_26 : decode mm_E_init.2.1 26 = .ok (.iload 5, 2) := by decide +kernel
theorem dd_E_init_28 : decode mm_E_init.2.1 28 = .ok (.putfield 22, 3) := by decide +kernel
theorem dd_E_init_31 : decode mm_E_init.2.1 31 = .ok (.return_, 1) := by decide +kernel
theorem dd_E_isLike_0 : decode mm_E_isLike.2.1 0 = .ok (.aload_n 0, 1) := by decide +kernel
theorem dd_E_isLike_1 : decode mm_E_isLike.2.1 1 = .ok (.getfield 7, 3) := by decide +kernel
theorem dd_E_isLike_4 : decode mm_E_isLike.2.1 4 = .ok (.aload_n 1, 1) := by decide +kernel
theorem dd_E_isLike_5 : decode mm_E_isLike.2.1 5 = .ok (.getfield 7, 3) := by decide +kernel
theorem dd_E_isLike_8 : decode mm_E_isLike.2.1 8 = .ok (.if_icmp .ne 51, 3) := by decide +kernel
theorem dd_E_isLike_11 : decode mm_E_isLike.2.1 11 = .ok (.aload_n 0, 1) := by decide +kernel
theorem dd_E_isLike_12 : decode mm_E_isLike.2.1 12 = .ok (.getfield 13, 3) := by decide +kernel
theorem dd_E_isLike_15 : decode mm_E_isLike.2.1 15 = .ok (.aload_n 1, 1) := by decide +kernel
theorem dd_E_isLike_16 : decode mm_E_isLike.2.1 16 = .ok (.getfield 13, 3) := by decide +kernel
theorem dd_E_isLike_19 : decode mm_E_isLike.2.1 19 = .ok (.if_icmp .ne 40, 3) := by decide +kernel
theorem dd_E_isLike_22 : decode mm_E_isLike.2.1 22 = .ok (.aload_n 0, 1) := by decide +kernel
theorem dd_E_isLike_23 : decode mm_E_isLike.2.1 23 = .ok (.getfield 16, 3) := by decide +kernel
theorem dd_E_isLike_26 : decode mm_E_isLike.2.1 26 = .ok (.aload_n 1, 1) := by decide +kernel
theorem dd_E_isLike_27 : decode mm_E_isLike.2.1 27 = .ok (.getfield 16, 3) := by decide +kernel
theorem dd_E_isLike_30 : decode mm_E_isLike.2.1 30 = .ok (.if_icmp .ne 29, 3) := by decide +kernel
theorem dd_E_isLike_33 : decode mm_E_isLike.2.1 33 = .ok (.aload_n 0, 1) := by decide +kernel
theorem dd_E_isLike_34 : decode mm_E_isLike.2.1 34 = .ok (.getfield 19, 3) := by decide +kernel
theorem dd_E_isLike_37 : decode mm_E_isLike.2.1 37 = .ok (.aload_n 1, 1) := by decide +kernel
theorem dd_E_isLike_38 : decode mm_E_isLike.2.1 38 = .ok (.getfield 19, 3) := by decide +kernel
theorem dd_E_isLike_41 : decode mm_E_isLike.2.1 41 = .ok (.if_icmp .ne 18, 3) := by decide +kernel
theorem dd_E_isLike_44 : decode mm_E_isLike.2.1 44 = .ok (.aload_n 0, 1) := by decide +kernel
theorem dd_E_isLike_45 : decode mm_E_isLike.2.1 45 = .ok (.getfield 22, 3) := by decide +kernel
theorem dd_E_isLike_48 : decode mm_E_isLike.2.1 48 = .ok (.aload_n 1, 1) := by decide +kernel
theorem dd_E_isLike_49 : decode mm_E_isLike.2.1 49 = .ok (.getfield 22, 3) := by decide +kernel
theorem dd_E_isLike_52 : decode mm_E_isLike.2.1 52 = .ok (.if_icmp .ne 7, 3) := by decide +kernel
theorem dd_E_isLike_55 : decode mm_E_isLike.2.1 55 = .ok (.iconst 1, 1) := by decide +kernel
theorem dd_E_isLike_56 : decode mm_E_isLike.2.1 56 = .ok (.goto 4, 3) := by decide +kernel
theorem dd_E_isLike_59 : decode mm_E_isLike.2.1 59 = .ok (.iconst 0, 1) := by decide +kernel
theorem dd_E_isLike_60 : decode mm_E_isLike.2.1 60 = .ok (.ireturn, 1) := by decide +kernel
theorem dd_E_item_0 : decode mm_E_item.2.1 0 = .ok (.iload_n 1, 1) := by decide +kernel
theorem dd_E_item_1 : decode mm_E_item.2.1 1 = .ok (.tableswitch 42 0 2 #[27, 32, 37], 27) := by decide +kernel
theorem dd_E_item_28 : decode mm_E_item.2.1 28 = .ok (.aload_n 0, 1) := by decide +kernel
theorem dd_E_item_29 : decode mm_E_item.2.1 29 = .ok (.getfield 13, 3) := by decide +kernel
theorem dd_E_item_32 : decode mm_E_item.2.1 32 = .ok (.ireturn, 1) := by decide +kernel
theorem dd_E_item_33 : decode mm_E_item.2.1 33 = .ok (.aload_n 0, 1) := by decide +kernel
theorem dd_E_item_34 : decode mm_E_item.2.1 34 = .ok (.getfield 16, 3) := by decide +kernel
theorem dd_E_item_37 : decode mm_E_item.2.1 37 = .ok (.ireturn, 1) := by decide +kernel
theorem dd_E_item_38 : decode mm_E_item.2.1 38 = .ok (.aload_n 0, 1) := by decide +kernel
theorem dd_E_item_39 : decode mm_E_item.2.1 39 = .ok (.getfield 19, 3) := by decide +kernel
theorem dd_E_item_42 : decode mm_E_item.2.1 42 = .ok (.ireturn, 1) := by decide +kernel
theorem dd_E_item_43 : decode mm_E_item.2.1 43 = .ok (.aload_n 0, 1) := by decide +kernel
theorem dd_E_item_44 : decode mm_E_item.2.1 44 = .ok (.getfield 22, 3) := by decide +kernel
theorem dd_E_item_47 : decode mm_E_item.2.1 47 = .ok (.ireturn, 1) := by decide +kernel
theorem dd_N_init_0 : decode mm_N_init.2.1 0 = .ok (.aload_n 0, 1) := by decide +kernel
theorem dd_N_init_1 : decode mm_N_init.2.1 1 = .ok (.invokespecial 1, 3) := by decide +kernel
theorem dd_N_init_4 : decode mm_N_init.2.1 4 = .ok (.aload_n 0, 1) := by decide +kernel
theorem dd_N_init_5 : decode mm_N_init.2.1 5 = .ok (.aload_n 1, 1) := by decide +kernel
theorem dd_N_init_6 : decode mm_N_init.2.1 6 = .ok (.putfield 7, 3) := by decide +kernel
theorem dd_N_init_9 : decode mm_N_init.2.1 9 = .ok (.aload_n 0, 1) := by decide +kernel
theorem dd_N_init_10 : decode mm_N_init.2.1 10 = .ok (.iload_n 2, 1) := by decide +kernel
theorem dd_N_init_11 : decode mm_N_init.2.1 11 = .ok (.putfield 13, 3) := by decide +kernel
theorem dd_N_init_14 : decode mm_N_init.2.1 14 = .ok (.return_, 1) := by decide +kernel
theorem dd_N_hasAny_0 : decode mm_N_hasAny.2.1 0 = .ok (.aload_n 0, 1) := by decide +kernel
theorem dd_N_hasAny_1 : decode mm_N_hasAny.2.1 1 = .ok (.getfield 13, 3) := by decide +kernel
theorem dd_N_hasAny_4 : decode mm_N_hasAny.2.1 4 = .ok (.iload_n 1, 1) := by decide +kernel
theorem dd_N_hasAny_5 : decode mm_N_hasAny.2.1 5 = .ok (.iand, 1) := by decide +kernel
theorem dd_N_hasAny_6 : decode mm_N_hasAny.2.1 6 = .ok (.ifCond .eq 7, 3) := by decide +kernel
theorem dd_N_hasAny_9 : decode mm_N_hasAny.2.1 9 = .ok (.iconst 1, 1) := by decide +kernel
theorem dd_N_hasAny_10 : decode mm_N_hasAny.2.1 10 = .ok (.goto 4, 3) := by decide +kernel
theorem dd_N_hasAny_13 : decode mm_N_hasAny.2.1 13 = .ok (.iconst 0, 1) := by decide +kernel
theorem dd_N_hasAny_14 : decode mm_N_hasAny.2.1 14 = .ok (.ireturn, 1) := by decide +kernel
theorem dd_N_item_0 : decode mm_N_item.2.1 0 = .ok (.iload_n 1, 1) := by decide +kernel
theorem dd_N_item_1 : decode mm_N_item.2.1 1 = .ok (.lookupswitch 40 #[(0, 27), (5, 35)], 27) := by decide +kernel
theorem dd_N_item_28 : decode mm_N_item.2.1 28 = .ok (.aload_n 0, 1) := by decide +kernel
theorem dd_N_item_29 : decode mm_N_item.2.1 29 = .ok (.getfield 7, 3) := by decide +kernel
theorem dd_N_item_32 : decode mm_N_item.2.1 32 = .ok (.getfield 17, 3) := by decide +kernel
theorem dd_N_item_35 : decode mm_N_item.2.1 35 = .ok (.ireturn, 1) := by decide +kernel
theorem dd_N_item_36 : decode mm_N_item.2.1 36 = .ok (.aload_n 0, 1) := by decide +kernel
theorem dd_N_item_37 : decode mm_N_item.2.1 37 = .ok (.getfield 13, 3) := by decide +kernel
theorem dd_N_item_40 : decode mm_N_item.2.1 40 = .ok (.ireturn, 1) := by decide +kernel
theorem dd_N_item_41 : decode mm_N_item.2.1 41 = .ok (.aload_n 0, 1) := by decide +kernel
theorem dd_N_item_42 : decode mm_N_item.2.1 42 = .ok (.getfield 7, 3) := by decide +kernel
theorem dd_N_item_45 : decode mm_N_item.2.1 45 = .ok (.iload_n 1, 1) := by decide +kernel
theorem dd_N_item_46 : decode mm_N_item.2.1 46 = .ok (.iconst 1, 1) := by decide +kernel
theorem dd_N_item_47 : decode mm_N_item.2.1 47 = .ok (.isub, 1) := by decide +kernel
theorem dd_N_item_48 : decode mm_N_item.2.1 48 = .ok (.invokevirtual 22, 3) := by decide +kernel
theorem dd_N_item_51 : decode mm_N_item.2.1 51 = .ok (.ireturn, 1) := by decide +kernel
theorem dd_R_init_0 : decode mm_R_init.2.1 0 = .ok (.aload_n 0, 1) := by decide +kernel
theorem dd_R_init_1 : decode mm_R_init.2.1 1 = .ok (.invokespecial 3, 3) := by decide +kernel
theorem dd_R_init_4 : decode mm_R_init.2.1 4 = .ok (.aload_n 0, 1) := by decide +kernel
theorem dd_R_init_5 : decode mm_R_init.2.1 5 = .ok (.bipush 16, 2) := by decide +kernel
theorem dd_R_init_7 : decode mm_R_init.2.1 7 = .ok (.anewarray 9, 3) := by decide +kernel
theorem dd_R_init_10 : decode mm_R_init.2.1 10 = .ok (.putfield 11, 3) := by decide +kernel
theorem dd_R_init_13 : decode mm_R_init.2.1 13 = .ok (.aload_n 0, 1) := by decide +kernel
theorem dd_R_init_14 : decode mm_R_init.2.1 14 = .ok (.iconst 1, 1) := by decide +kernel
theorem dd_R_init_15 : decode mm_R_init.2.1 15 = .ok (.putfield 17, 3) := by decide +kernel
theorem dd_R_init_18 : decode mm_R_init.2.1 18 = .ok (.return_, 1) := by decide +kernel
theorem dd_R_append_0 : decode mm_R_append.2.1 0 = .ok (.aload_n 0, 1) := by decide +kernel
theorem dd_R_append_1 : decode mm_R_append.2.1 1 = .ok (.getfield 11, 3) := by decide +kernel
theorem dd_R_append_4 : decode mm_R_append.2.1 4 = .ok (.aload_n 0, 1) := by decide +kernel
theorem dd_R_append_5 : decode mm_R_append.2.1 5 = .ok (.getfield 17, 3) := by decide +kernel
theorem dd_R_append_8 : decode mm_R_append.2.1 8 = .ok (.bipush 15, 2) := by decide +kernel
theorem dd_R_append_10 : decode mm_R_append.2.1 10 = .ok (.iand, 1) := by decide +kernel
theorem dd_R_append_11 : decode mm_R_append.2.1 11 = .ok (.new 9, 3) := by decide +kernel
theorem dd_R_append_14 : decode mm_R_append.2.1 14 = .ok (.dup, 1) := by decide +kernel
theorem dd_R_append_15 : decode mm_R_append.2.1 15 = .ok (.aload_n 1, 1) := by decide +kernel
theorem dd_R_append_16 : decode mm_R_append.2.1 16 = .ok (.iload_n 2, 1) := by decide +kernel
theorem dd_R_append_17 : decode mm_R_append.2.1 17 = .ok (.invokespecial 25, 3) := by decide +kernel
theorem dd_R_append_20 : decode mm_R_append.2.1 20 = .ok (.aastore, 1) := by decide +kernel
theorem dd_R_append_21 : decode mm_R_append.2.1 21 = .ok (.aload_n 0, 1) := by decide +kernel
theorem dd_R_append_22 : decode mm_R_append.2.1 22 = .ok (.dup, 1) := by decide +kernel
theorem dd_R_append_23 : decode mm_R_append.2.1 23 = .ok (.getfield 17, 3) := by decide +kernel
theorem dd_R_append_26 : decode mm_R_append.2.1 26 = .ok (.iconst 1, 1) := by decide +kernel
theorem dd_R_append_27 : decode mm_R_append.2.1 27 = .ok (.iadd, 1) := by decide +kernel
theorem dd_R_append_28 : decode mm_R_append.2.1 28 = .ok (.putfield 17, 3) := by decide +kernel
theorem dd_R_append_31 : decode mm_R_append.2.1 31 = .ok (.return_, 1) := by decide +kernel
theorem dd_R_leastKept_0 : decode mm_R_leastKept.2.1 0 = .ok (.aload_n 0, 1) := by decide +kernel
theorem dd_R_leastKept_1 : decode mm_R_leastKept.2.1 1 = .ok (.getfield 17, 3) := by decide +kernel
theorem dd_R_leastKept_4 : decode mm_R_leastKept.2.1 4 = .ok (.bipush 16, 2) := by decide +kernel
theorem dd_R_leastKept_6 : decode mm_R_leastKept.2.1 6 = .ok (.if_icmp .le 13, 3) := by decide +kernel
theorem dd_R_leastKept_9 : decode mm_R_leastKept.2.1 9 = .ok (.aload_n 0, 1) := by decide +kernel
theorem dd_R_leastKept_10 : decode mm_R_leastKept.2.1 10 = .ok (.getfield 17, 3) := by decide +kernel
theorem dd_R_leastKept_13 : decode mm_R_leastKept.2.1 13 = .ok (.bipush 16, 2) := by decide +kernel
theorem dd_R_leastKept_15 : decode mm_R_leastKept.2.1 15 = .ok (.isub, 1) := by decide +kernel
theorem dd_R_leastKept_16 : decode mm_R_leastKept.2.1 16 = .ok (.goto 4, 3) := by decide +kernel
theorem dd_R_leastKept_19 : decode mm_R_leastKept.2.1 19 = .ok (.iconst 1, 1) := by decide +kernel
theorem dd_R_leastKept_20 : decode mm_R_leastKept.2.1 20 = .ok (.ireturn, 1) := by decide +kernel
theorem dd_R_nextSerial_0 : decode mm_R_nextSerial.2.1 0 = .ok (.aload_n 0, 1) := by decide +kernel
theorem dd_R_nextSerial_1 : decode mm_R_nextSerial.2.1 1 = .ok (.getfield 17, 3) := by decide +kernel
theorem dd_R_nextSerial_4 : decode mm_R_nextSerial.2.1 4 = .ok (.ireturn, 1) := by decide +kernel
theorem dd_R_noteAt_0 : decode mm_R_noteAt.2.1 0 = .ok (.iload_n 1, 1) := by decide +kernel
theorem dd_R_noteAt_1 : decode mm_R_noteAt.2.1 1 = .ok (.aload_n 0, 1) := by decide +kernel
theorem dd_R_noteAt_2 : decode mm_R_noteAt.2.1 2 = .ok (.invokevirtual 21, 3) := by decide +kernel
theorem dd_R_noteAt_5 : decode mm_R_noteAt.2.1 5 = .ok (.if_icmp .lt 11, 3) := by decide +kernel
theorem dd_R_noteAt_8 : decode mm_R_noteAt.2.1 8 = .ok (.iload_n 1, 1) := by decide +kernel
theorem dd_R_noteAt_9 : decode mm_R_noteAt.2.1 9 = .ok (.aload_n 0, 1) := by decide +kernel
theorem dd_R_noteAt_10 : decode mm_R_noteAt.2.1 10 = .ok (.getfield 17, 3) := by decide +kernel
theorem dd_R_noteAt_13 : decode mm_R_noteAt.2.1 13 = .ok (.if_icmp .lt 5, 3) := by decide +kernel
theorem dd_R_noteAt_16 : decode mm_R_noteAt.2.1 16 = .ok (.aconst_null, 1) := by decide +kernel
theorem dd_R_noteAt_17 : decode mm_R_noteAt.2.1 17 = .ok (.areturn, 1) := by decide +kernel
theorem dd_R_noteAt_18 : decode mm_R_noteAt.2.1 18 = .ok (.aload_n 0, 1) := by decide +kernel
theorem dd_R_noteAt_19 : decode mm_R_noteAt.2.1 19 = .ok (.getfield 11, 3) := by decide +kernel
theorem dd_R_noteAt_22 : decode mm_R_noteAt.2.1 22 = .ok (.iload_n 1, 1) := by decide +kernel
theorem dd_R_noteAt_23 : decode mm_R_noteAt.2.1 23 = .ok (.bipush 15, 2) := by decide +kernel
theorem dd_R_noteAt_25 : decode mm_R_noteAt.2.1 25 = .ok (.iand, 1) := by decide +kernel
theorem dd_R_noteAt_26 : decode mm_R_noteAt.2.1 26 = .ok (.aaload, 1) := by decide +kernel
theorem dd_R_noteAt_27 : decode mm_R_noteAt.2.1 27 = .ok (.areturn, 1) := by decide +kernel
theorem dd_G_init_0 : decode mm_G_init.2.1 0 = .ok (.aload_n 0, 1) := by decide +kernel
theorem dd_G_init_1 : decode mm_G_init.2.1 1 = .ok (.invokespecial 1, 3) := by decide +kernel
theorem dd_G_init_4 : decode mm_G_init.2.1 4 = .ok (.aload_n 0, 1) := by decide +kernel
theorem dd_G_init_5 : decode mm_G_init.2.1 5 = .ok (.iload_n 1, 1) := by decide +kernel
theorem dd_G_init_6 : decode mm_G_init.2.1 6 = .ok (.putfield 7, 3) := by decide +kernel
theorem dd_G_init_9 : decode mm_G_init.2.1 9 = .ok (.return_, 1) := by decide +kernel
theorem dd_F_init_0 : decode mm_F_init.2.1 0 = .ok (.aload_n 0, 1) := by decide +kernel
theorem dd_F_init_1 : decode mm_F_init.2.1 1 = .ok (.invokespecial 1, 3) := by decide +kernel
theorem dd_F_init_4 : decode mm_F_init.2.1 4 = .ok (.aload_n 0, 1) := by decide +kernel
theorem dd_F_init_5 : decode mm_F_init.2.1 5 = .ok (.new 7, 3) := by decide +kernel
theorem dd_F_init_8 : decode mm_F_init.2.1 8 = .ok (.dup, 1) := by decide +kernel
theorem dd_F_init_9 : decode mm_F_init.2.1 9 = .ok (.invokespecial 9, 3) := by decide +kernel
theorem dd_F_init_12 : decode mm_F_init.2.1 12 = .ok (.putfield 10, 3) := by decide +kernel
theorem dd_F_init_15 : decode mm_F_init.2.1 15 = .ok (.aload_n 0, 1) := by decide +kernel
theorem dd_F_init_16 : decode mm_F_init.2.1 16 = .ok (.iload_n 1, 1) := by decide +kernel
theorem dd_F_init_17 : decode mm_F_init.2.1 17 = .ok (.putfield 16, 3) := by decide +kernel
theorem dd_F_init_20 : decode mm_F_init.2.1 20 = .ok (.return_, 1) := by decide +kernel
theorem dd_F_count_0 : decode mm_F_count.2.1 0 = .ok (.aload_n 0, 1) := by decide +kernel
theorem dd_F_count_1 : decode mm_F_count.2.1 1 = .ok (.getfield 10, 3) := by decide +kernel
theorem dd_F_count_4 : decode mm_F_count.2.1 4 = .ok (.invokevirtual 20, 3) := by decide +kernel
theorem dd_F_count_7 : decode mm_F_count.2.1 7 = .ok (.ireturn, 1) := by decide +kernel
theorem dd_F_drop_0 : decode mm_F_drop.2.1 0 = .ok (.iconst 0, 1) := by decide +kernel
theorem dd_F_drop_1 : decode mm_F_drop.2.1 1 = .ok (.istore_n 2, 1) := by decide +kernel
theorem dd_F_drop_2 : decode mm_F_drop.2.1 2 = .ok (.iload_n 2, 1) := by decide +kernel
theorem dd_F_drop_3 : decode mm_F_drop.2.1 3 = .ok (.aload_n 0, 1) := by decide +kernel
theorem dd_F_drop_4 : decode mm_F_drop.2.1 4 = .ok (.getfield 10, 3) := by decide +kernel
theorem dd_F_drop_7 : decode mm_F_drop.2.1 7 = .ok (.invokevirtual 20, 3) := by decide +kernel
theorem dd_F_drop_10 : decode mm_F_drop.2.1 10 = .ok (.if_icmp .ge 37, 3) := by decide +kernel
theorem dd_F_drop_13 : decode mm_F_drop.2.1 13 = .ok (.aload_n 0, 1) := by decide +kernel
theorem dd_F_drop_14 : decode mm_F_drop.2.1 14 = .ok (.getfield 10, 3) := by decide +kernel
theorem dd_F_drop_17 : decode mm_F_drop.2.1 17 = .ok (.iload_n 2, 1) := by decide +kernel
theorem dd_F_drop_18 : decode mm_F_drop.2.1 18 = .ok (.invokevirtual 24, 3) := by decide +kernel
theorem dd_F_drop_21 : decode mm_F_drop.2.1 21 = .ok (.checkcast 28, 3) := by decide +kernel
theorem dd_F_drop_24 : decode mm_F_drop.2.1 24 = .ok (.getfield 30, 3) := by decide +kernel
theorem dd_F_drop_27 : decode mm_F_drop.2.1 27 = .ok (.iload_n 1, 1) := by decide +kernel
theorem dd_F_drop_28 : decode mm_F_drop.2.1 28 = .ok (.if_icmp .ne 13, 3) := by decide +kernel
theorem dd_F_drop_31 : decode mm_F_drop.2.1 31 = .ok (.aload_n 0, 1) := by decide +kernel
theorem dd_F_drop_32 : decode mm_F_drop.2.1 32 = .ok (.getfield 10, 3) := by decide +kernel
theorem dd_F_drop_35 : decode mm_F_drop.2.1 35 = .ok (.iload_n 2, 1) := by decide +kernel
theorem dd_F_drop_36 : decode mm_F_drop.2.1 36 = .ok (.invokevirtual 47, 3) := by decide +kernel
theorem dd_F_drop_39 : decode mm_F_drop.2.1 39 = .ok (.pop, 1) := by decide +kernel
theorem dd_F_drop_40 : decode mm_F_drop.2.1 40 = .ok (.return_, 1) := by decide +kernel
theorem dd_F_drop_41 : decode mm_F_drop.2.1 41 = .ok (.iinc 2 1, 3) := by decide +kernel
theorem dd_F_drop_44 : decode mm_F_drop.2.1 44 = .ok (.goto (-42), 3) := by decide +kernel
theorem dd_F_drop_47 : decode mm_F_drop.2.1 47 = .ok (.return_, 1) := by decide +kernel
theorem dd_F_dropRange_0 : decode mm_F_dropRange.2.1 0 = .ok (.aload_n 0, 1) := by decide +kernel
theorem dd_F_dropRange_1 : decode mm_F_dropRange.2.1 1 = .ok (.getfield 10, 3) := by decide +kernel
theorem dd_F_dropRange_4 : decode mm_F_dropRange.2.1 4 = .ok (.invokevirtual 20, 3) := by decide +kernel
theorem dd_F_dropRange_7 : decode mm_F_dropRange.2.1 7 = .ok (.iconst 1, 1) := by decide +kernel
theorem dd_F_dropRange_8 : decode mm_F_dropRange.2.1 8 = .ok (.isub, 1) := by decide +kernel
theorem dd_F_dropRange_9 : decode mm_F_dropRange.2.1 9 = .ok (.istore_n 3, 1) := by decide +kernel
theorem dd_F_dropRange_10 : decode mm_F_dropRange.2.1 10 = .ok (.iload_n 3, 1) := by decide +kernel
theorem dd_F_dropRange_11 : decode mm_F_dropRange.2.1 11 = .ok (.ifCond .lt 46, 3) := by decide +kernel
theorem dd_F_dropRange_14 : decode mm_F_dropRange.2.1 14 = .ok (.aload_n 0, 1) := by decide +kernel
theorem dd_F_dropRange_15 : decode mm_F_dropRange.2.1 15 = .ok (.getfield 10, 3) := by decide +kernel
theorem dd_F_dropRange_18 : decode mm_F_dropRange.2.1 18 = .ok (.iload_n 3, 1) := by decide +kernel
theorem dd_F_dropRange_19 : decode mm_F_dropRange.2.1 19 = .ok (.invokevirtual 24, 3) := by decide +kernel
theorem dd_F_dropRange_22 : decode mm_F_dropRange.2.1 22 = .ok (.checkcast 28, 3) := by decide +kernel
theorem dd_F_dropRange_25 : decode mm_F_dropRange.2.1 25 = .ok (.getfield 30, 3) := by decide +kernel
theorem dd_F_dropRange_28 : decode mm_F_dropRange.2.1 28 = .ok (.istore 4, 2) := by decide +kernel
theorem dd_F_dropRange_30 : decode mm_F_dropRange.2.1 30 = .ok (.iload 4, 2) := by decide +kernel
theorem dd_F_dropRange_32 : decode mm_F_dropRange.2.1 32 = .ok (.iload_n 1, 1) := by decide +kernel
theorem dd_F_dropRange_33 : decode mm_F_dropRange.2.1 33 = .ok (.if_icmp .le 18, 3) := by decide +kernel
theorem dd_F_dropRange_36 : decode mm_F_dropRange.2.1 36 = .ok (.iload 4, 2) := by decide +kernel
theorem dd_F_dropRange_38 : decode mm_F_dropRange.2.1 38 = .ok (.iload_n 2, 1) := by decide +kernel
theorem dd_F_dropRange_39 : decode mm_F_dropRange.2.1 39 = .ok (.if_icmp .gt 12, 3) := by decide +kernel
theorem dd_F_dropRange_42 : decode mm_F_dropRange.2.1 42 = .ok (.aload_n 0, 1) := by decide +kernel
theorem dd_F_dropRange_43 : decode mm_F_dropRange.2.1 43 = .ok (.getfield 10, 3) := by decide +kernel
theorem dd_F_dropRange_46 : decode mm_F_dropRange.2.1 46 = .ok (.iload_n 3, 1) := by decide +kernel
theorem dd_F_dropRange_47 : decode mm_F_dropRange.2.1 47 = .ok (.invokevirtual 47, 3) := by decide +kernel
theorem dd_F_dropRange_50 : decode mm_F_dropRange.2.1 50 = .ok (.pop, 1) := by decide +kernel
theorem dd_F_dropRange_51 : decode mm_F_dropRange.2.1 51 = .ok (.iinc 3 (-1), 3) := by decide +kernel
theorem dd_F_dropRange_54 : decode mm_F_dropRange.2.1 54 = .ok (.goto (-44), 3) := by decide +kernel
theorem dd_F_dropRange_57 : decode mm_F_dropRange.2.1 57 = .ok (.return_, 1) := by decide +kernel
theorem dd_F_entryAbove_0 : decode mm_F_entryAbove.2.1 0 = .ok (.iconst 0, 1) := by decide +kernel
theorem dd_F_entryAbove_1 : decode mm_F_entryAbove.2.1 1 = .ok (.istore_n 2, 1) := by decide +kernel
theorem dd_F_entryAbove_2 : decode mm_F_entryAbove.2.1 2 = .ok (.iload_n 2, 1) := by decide +kernel
theorem dd_F_entryAbove_3 : decode mm_F_entryAbove.2.1 3 = .ok (.aload_n 0, 1) := by decide +kernel
theorem dd_F_entryAbove_4 : decode mm_F_entryAbove.2.1 4 = .ok (.getfield 10, 3) := by decide +kernel
theorem dd_F_entryAbove_7 : decode mm_F_entryAbove.2.1 7 = .ok (.invokevirtual 20, 3) := by decide +kernel
theorem dd_F_entryAbove_10 : decode mm_F_entryAbove.2.1 10 = .ok (.if_icmp .ge 31, 3) := by decide +kernel
theorem dd_F_entryAbove_13 : decode mm_F_entryAbove.2.1 13 = .ok (.aload_n 0, 1) := by decide +kernel
theorem dd_F_entryAbove_14 : decode mm_F_entryAbove.2.1 14 = .ok (.getfield 10, 3) := by decide +kernel
theorem dd_F_entryAbove_17 : decode mm_F_entryAbove.2.1 17 = .ok (.iload_n 2, 1) := by decide +kernel
theorem dd_F_entryAbove_18 : decode mm_F_entryAbove.2.1 18 = .ok (.invokevirtual 24, 3) := by decide +kernel
theorem dd_F_entryAbove_21 : decode mm_F_entryAbove.2.1 21 = .ok (.checkcast 28, 3) := by decide +kernel
theorem dd_F_entryAbove_24 : decode mm_F_entryAbove.2.1 24 = .ok (.astore_n 3, 1) := by decide +kernel
theorem dd_F_entryAbove_25 : decode mm_F_entryAbove.2.1 25 = .ok (.aload_n 3, 1) := by decide +kernel
theorem dd_F_entryAbove_26 : decode mm_F_entryAbove.2.1 26 = .ok (.getfield 30, 3) := by decide +kernel
theorem dd_F_entryAbove_29 : decode mm_F_entryAbove.2.1 29 = .ok (.iload_n 1, 1) := by decide +kernel
theorem dd_F_entryAbove_30 : decode mm_F_entryAbove.2.1 30 = .ok (.if_icmp .le 5, 3) := by decide +kernel
theorem dd_F_entryAbove_33 : decode mm_F_entryAbove.2.1 33 = .ok (.aload_n 3, 1) := by decide +kernel
theorem dd_F_entryAbove_34 : decode mm_F_entryAbove.2.1 34 = .ok (.areturn, 1) := by decide +kernel
theorem dd_F_entryAbove_35 : decode mm_F_entryAbove.2.1 35 = .ok (.iinc 2 1, 3) := by decide +kernel
theorem dd_F_entryAbove_38 : decode mm_F_entryAbove.2.1 38 = .ok (.goto (-36), 3) := by decide +kernel
theorem dd_F_entryAbove_41 : decode mm_F_entryAbove.2.1 41 = .ok (.aconst_null, 1) := by decide +kernel
theorem dd_F_entryAbove_42 : decode mm_F_entryAbove.2.1 42 = .ok (.areturn, 1) := by decide +kernel
theorem dd_F_entryNamed_0 : decode mm_F_entryNamed.2.1 0 = .ok (.iconst 0, 1) := by decide +kernel
theorem dd_F_entryNamed_1 : decode mm_F_entryNamed.2.1 1 = .ok (.istore_n 3, 1) := by decide +kernel
theorem dd_F_entryNamed_2 : decode mm_F_entryNamed.2.1 2 = .ok (.iload_n 3, 1) := by decide +kernel
theorem dd_F_entryNamed_3 : decode mm_F_entryNamed.2.1 3 = .ok (.aload_n 0, 1) := by decide +kernel
theorem dd_F_entryNamed_4 : decode mm_F_entryNamed.2.1 4 = .ok (.getfield 10, 3) := by decide +kernel
theorem dd_F_entryNamed_7 : decode mm_F_entryNamed.2.1 7 = .ok (.invokevirtual 20, 3) := by decide +kernel
theorem dd_F_entryNamed_10 : decode mm_F_entryNamed.2.1 10 = .ok (.if_icmp .ge 43, 3) := by decide +kernel
theorem dd_F_entryNamed_13 : decode mm_F_entryNamed.2.1 13 = .ok (.aload_n 0, 1) := by decide +kernel
theorem dd_F_entryNamed_14 : decode mm_F_entryNamed.2.1 14 = .ok (.getfield 10, 3) := by decide +kernel
theorem dd_F_entryNamed_17 : decode mm_F_entryNamed.2.1 17 = .ok (.iload_n 3, 1) := by decide +kernel
theorem dd_F_entryNamed_18 : decode mm_F_entryNamed.2.1 18 = .ok (.invokevirtual 24, 3) := by decide +kernel
theorem dd_F_entryNamed_21 : decode mm_F_entryNamed.2.1 21 = .ok (.checkcast 28, 3) := by decide +kernel
theorem dd_F_entryNamed_24 : decode mm_F_entryNamed.2.1 24 = .ok (.astore 4, 2) := by decide +kernel
theorem dd_F_entryNamed_26 : decode mm_F_entryNamed.2.1 26 = .ok (.aload 4, 2) := by decide +kernel
theorem dd_F_entryNamed_28 : decode mm_F_entryNamed.2.1 28 = .ok (.getfield 33, 3) := by decide +kernel
theorem dd_F_entryNamed_31 : decode mm_F_entryNamed.2.1 31 = .ok (.iload_n 1, 1) := by decide +kernel
theorem dd_F_entryNamed_32 : decode mm_F_entryNamed.2.1 32 = .ok (.if_icmp .ne 15, 3) := by decide +kernel
theorem dd_F_entryNamed_35 : decode mm_F_entryNamed.2.1 35 = .ok (.aload 4, 2) := by decide +kernel
theorem dd_F_entryNamed_37 : decode mm_F_entryNamed.2.1 37 = .ok (.getfield 36, 3) := by decide +kernel
theorem dd_F_entryNamed_40 : decode mm_F_entryNamed.2.1 40 = .ok (.iload_n 2, 1) := by decide +kernel
theorem dd_F_entryNamed_41 : decode mm_F_entryNamed.2.1 41 = .ok (.if_icmp .ne 6, 3) := by decide +kernel
theorem dd_F_entryNamed_44 : decode mm_F_entryNamed.2.1 44 = .ok (.aload 4, 2) := by decide +kernel
theorem dd_F_entryNamed_46 : decode mm_F_entryNamed.2.1 46 = .ok (.areturn, 1) := by decide +kernel
theorem dd_F_entryNamed_47 : decode mm_F_entryNamed.2.1 47 = .ok (.iinc 3 1, 3) := by decide +kernel
theorem dd_F_entryNamed_50 : decode mm_F_entryNamed.2.1 50 = .ok (.goto (-48), 3) := by decide +kernel
theorem dd_F_entryNamed_53 : decode mm_F_entryNamed.2.1 53 = .ok (.aconst_null, 1) := by decide +kernel
theorem dd_F_entryNamed_54 : decode mm_F_entryNamed.2.1 54 = .ok (.areturn, 1) := by decide +kernel
theorem dd_F_entryOf_0 : decode mm_F_entryOf.2.1 0 = .ok (.iconst 0, 1) := by decide +kernel
theorem dd_F_entryOf_1 : decode mm_F_entryOf.2.1 1 = .ok (.istore_n 2, 1) := by decide +kernel
theorem dd_F_entryOf_2 : decode mm_F_entryOf.2.1 2 = .ok (.iload_n 2, 1) := by decide +kernel
theorem dd_F_entryOf_3 : decode mm_F_entryOf.2.1 3 = .ok (.aload_n 0, 1) := by decide +kernel
theorem dd_F_entryOf_4 : decode mm_F_entryOf.2.1 4 = .ok (.getfield 10, 3) := by decide +kernel
theorem dd_F_entryOf_7 : decode mm_F_entryOf.2.1 7 = .ok (.invokevirtual 20, 3) := by decide +kernel
theorem dd_F_entryOf_10 : decode mm_F_entryOf.2.1 10 = .ok (.if_icmp .ge 31, 3) := by decide +kernel
theorem dd_F_entryOf_13 : decode mm_F_entryOf.2.1 13 = .ok (.aload_n 0, 1) := by decide +kernel
theorem dd_F_entryOf_14 : decode mm_F_entryOf.2.1 14 = .ok (.getfield 10, 3) := by decide +kernel
theorem dd_F_entryOf_17 : decode mm_F_entryOf.2.1 17 = .ok (.iload_n 2, 1) := by decide +kernel
theorem dd_F_entryOf_18 : decode mm_F_entryOf.2.1 18 = .ok (.invokevirtual 24, 3) := by decide +kernel
theorem dd_F_entryOf_21 : decode mm_F_entryOf.2.1 21 = .ok (.checkcast 28, 3) := by decide +kernel
theorem dd_F_entryOf_24 : decode mm_F_entryOf.2.1 24 = .ok (.astore_n 3, 1) := by decide +kernel
theorem dd_F_entryOf_25 : decode mm_F_entryOf.2.1 25 = .ok (.aload_n 3, 1) := by decide +kernel
theorem dd_F_entryOf_26 : decode mm_F_entryOf.2.1 26 = .ok (.getfield 30, 3) := by decide +kernel
theorem dd_F_entryOf_29 : decode mm_F_entryOf.2.1 29 = .ok (.iload_n 1, 1) := by decide +kernel
theorem dd_F_entryOf_30 : decode mm_F_entryOf.2.1 30 = .ok (.if_icmp .ne 5, 3) := by decide +kernel
theorem dd_F_entryOf_33 : decode mm_F_entryOf.2.1 33 = .ok (.aload_n 3, 1) := by decide +kernel
theorem dd_F_entryOf_34 : decode mm_F_entryOf.2.1 34 = .ok (.areturn, 1) := by decide +kernel
theorem dd_F_entryOf_35 : decode mm_F_entryOf.2.1 35 = .ok (.iinc 2 1, 3) := by decide +kernel
theorem dd_F_entryOf_38 : decode mm_F_entryOf.2.1 38 = .ok (.goto (-36), 3) := by decide +kernel
theorem dd_F_entryOf_41 : decode mm_F_entryOf.2.1 41 = .ok (.aconst_null, 1) := by decide +kernel
theorem dd_F_entryOf_42 : decode mm_F_entryOf.2.1 42 = .ok (.areturn, 1) := by decide +kernel
theorem dd_F_hasFilesIn_0 : decode mm_F_hasFilesIn.2.1 0 = .ok (.iconst 0, 1) := by decide +kernel
theorem dd_F_hasFilesIn_1 : decode mm_F_hasFilesIn.2.1 1 = .ok (.istore_n 2, 1) := by decide +kernel
theorem dd_F_hasFilesIn_2 : decode mm_F_hasFilesIn.2.1 2 = .ok (.iload_n 2, 1) := by decide +kernel
theorem dd_F_hasFilesIn_3 : decode mm_F_hasFilesIn.2.1 3 = .ok (.aload_n 0, 1) := by decide +kernel
theorem dd_F_hasFilesIn_4 : decode mm_F_hasFilesIn.2.1 4 = .ok (.getfield 10, 3) := by decide +kernel
theorem dd_F_hasFilesIn_7 : decode mm_F_hasFilesIn.2.1 7 = .ok (.invokevirtual 20, 3) := by decide +kernel
theorem dd_F_hasFilesIn_10 : decode mm_F_hasFilesIn.2.1 10 = .ok (.if_icmp .ge 29, 3) := by decide +kernel
theorem dd_F_hasFilesIn_13 : decode mm_F_hasFilesIn.2.1 13 = .ok (.aload_n 0, 1) := by decide +kernel
theorem dd_F_hasFilesIn_14 : decode mm_F_hasFilesIn.2.1 14 = .ok (.getfield 10, 3) := by decide +kernel
theorem dd_F_hasFilesIn_17 : decode mm_F_hasFilesIn.2.1 17 = .ok (.iload_n 2, 1) := by decide +kernel
theorem dd_F_hasFilesIn_18 : decode mm_F_hasFilesIn.2.1 18 = .ok (.invokevirtual 24, 3) := by decide +kernel
theorem dd_F_hasFilesIn_21 : decode mm_F_hasFilesIn.2.1 21 = .ok (.checkcast 28, 3) := by decide +kernel
theorem dd_F_hasFilesIn_24 : decode mm_F_hasFilesIn.2.1 24 = .ok (.getfield 33, 3) := by decide +kernel
theorem dd_F_hasFilesIn_27 : decode mm_F_hasFilesIn.2.1 27 = .ok (.iload_n 1, 1) := by decide +kernel
theorem dd_F_hasFilesIn_28 : decode mm_F_hasFilesIn.2.1 28 = .ok (.if_icmp .ne 5, 3) := by decide +kernel
theorem dd_F_hasFilesIn_31 : decode mm_F_hasFilesIn.2.1 31 = .ok (.iconst 1, 1) := by decide +kernel
theorem dd_F_hasFilesIn_32 : decode mm_F_hasFilesIn.2.1 32 = .ok (.ireturn, 1) := by decide +kernel
theorem dd_F_hasFilesIn_33 : decode mm_F_hasFilesIn.2.1 33 = .ok (.iinc 2 1, 3) := by decide +kernel
theorem dd_F_hasFilesIn_36 : decode mm_F_hasFilesIn.2.1 36 = .ok (.goto (-34), 3) := by decide +kernel
theorem dd_F_hasFilesIn_39 : decode mm_F_hasFilesIn.2.1 39 = .ok (.iconst 0, 1) := by decide +kernel
theorem dd_F_hasFilesIn_40 : decode mm_F_hasFilesIn.2.1 40 = .ok (.ireturn, 1) := by decide +kernel
theorem dd_F_isLike_0 : decode mm_F_isLike.2.1 0 = .ok (.aload_n 0, 1) := by decide +kernel
theorem dd_F_isLike_1 : decode mm_F_isLike.2.1 1 = .ok (.getfield 10, 3) := by decide +kernel
theorem dd_F_isLike_4 : decode mm_F_isLike.2.1 4 = .ok (.invokevirtual 20, 3) := by decide +kernel
theorem dd_F_isLike_7 : decode mm_F_isLike.2.1 7 = .ok (.aload_n 1, 1) := by decide +kernel
theorem dd_F_isLike_8 : decode mm_F_isLike.2.1 8 = .ok (.getfield 10, 3) := by decide +kernel
theorem dd_F_isLike_11 : decode mm_F_isLike.2.1 11 = .ok (.invokevirtual 20, 3) := by decide +kernel
theorem dd_F_isLike_14 : decode mm_F_isLike.2.1 14 = .ok (.if_icmp .eq 5, 3) := by decide +kernel
theorem dd_F_isLike_17 : decode mm_F_isLike.2.1 17 = .ok (.iconst 0, 1) := by decide +kernel
theorem dd_F_isLike_18 : decode mm_F_isLike.2.1 18 = .ok (.ireturn, 1) := by decide +kernel
theorem dd_F_isLike_19 : decode mm_F_isLike.2.1 19 = .ok (.iconst 0, 1) := by decide +kernel
theorem dd_F_isLike_20 : decode mm_F_isLike.2.1 20 = .ok (.istore_n 2, 1) := by decide +kernel
theorem dd_F_isLike_21 : decode mm_F_isLike.2.1 21 = .ok (.iload_n 2, 1) := by decide +kernel
theorem dd_F_isLike_22 : decode mm_F_isLike.2.1 22 = .ok (.aload_n 0, 1) := by decide +kernel
theorem dd_F_isLike_23 : decode mm_F_isLike.2.1 23 = .ok (.getfield 10, 3) := by decide +kernel
theorem dd_F_isLike_26 : decode mm_F_isLike.2.1 26 = .ok (.invokevirtual 20, 3) := by decide +kernel
theorem dd_F_isLike_29 : decode mm_F_isLike.2.1 29 = .ok (.if_icmp .ge 39, 3) := by decide +kernel
theorem dd_F_isLike_32 : decode mm_F_isLike.2.1 32 = .ok (.aload_n 0, 1) := by decide +kernel
theorem dd_F_isLike_33 : decode mm_F_isLike.2.1 33 = .ok (.getfield 10, 3) := by decide +kernel
theorem dd_F_isLike_36 : decode mm_F_isLike.2.1 36 = .ok (.iload_n 2, 1) := by decide +kernel
theorem dd_F_isLike_37 : decode mm_F_isLike.2.1 37 = .ok (.invokevirtual 24, 3) := by decide +kernel
theorem dd_F_isLike_40 : decode mm_F_isLike.2.1 40 = .ok (.checkcast 28, 3) := by decide +kernel
theorem dd_F_isLike_43 : decode mm_F_isLike.2.1 43 = .ok (.aload_n 1, 1) := by decide +kernel
theorem dd_F_isLike_44 : decode mm_F_isLike.2.1 44 = .ok (.getfield 10, 3) := by decide +kernel
theorem dd_F_isLike_47 : decode mm_F_isLike.2.1 47 = .ok (.iload_n 2, 1) := by decide +kernel
theorem dd_F_isLike_48 : decode mm_F_isLike.2.1 48 = .ok (.invokevirtual 24, 3) := by decide +kernel
theorem dd_F_isLike_51 : decode mm_F_isLike.2.1 51 = .ok (.checkcast 28, 3) := by decide +kernel
theorem dd_F_isLike_54 : decode mm_F_isLike.2.1 54 = .ok (.invokevirtual 50, 3) := by decide +kernel
theorem dd_F_isLike_57 : decode mm_F_isLike.2.1 57 = .ok (.ifCond .ne 5, 3) := by decide +kernel
theorem dd_F_isLike_60 : decode mm_F_isLike.2.1 60 = .ok (.iconst 0, 1) := by decide +kernel
theorem dd_F_isLike_61 : decode mm_F_isLike.2.1 61 = .ok (.ireturn, 1) := by decide +kernel
theorem dd_F_isLike_62 : decode mm_F_isLike.2.1 62 = .ok (.iinc 2 1, 3) := by decide +kernel
theorem dd_F_isLike_65 : decode mm_F_isLike.2.1 65 = .ok (.goto (-44), 3) := by decide +kernel
theorem dd_F_isLike_68 : decode mm_F_isLike.2.1 68 = .ok (.iconst 1, 1) := by decide +kernel
theorem dd_F_isLike_69 : decode mm_F_isLike.2.1 69 = .ok (.ireturn, 1) := by decide +kernel
theorem dd_F_put_0 : decode mm_F_put.2.1 0 = .ok (.iconst 0, 1) := by decide +kernel
theorem dd_F_put_1 : decode mm_F_put.2.1 1 = .ok (.istore_n 2, 1) := by decide +kernel
theorem dd_F_put_2 : decode mm_F_put.2.1 2 = .ok (.iload_n 2, 1) := by decide +kernel
theorem dd_F_put_3 : decode mm_F_put.2.1 3 = .ok (.aload_n 0, 1) := by decide +kernel
theorem dd_F_put_4 : decode mm_F_put.2.1 4 = .ok (.getfield 10, 3) := by decide +kernel
theorem dd_F_put_7 : decode mm_F_put.2.1 7 = .ok (.invokevirtual 20, 3) := by decide +kernel
theorem dd_F_put_10 : decode mm_F_put.2.1 10 = .ok (.if_icmp .ge 30, 3) := by decide +kernel
theorem dd_F_put_13 : decode mm_F_put.2.1 13 = .ok (.aload_n 0, 1) := by decide +kernel
theorem dd_F_put_14 : decode mm_F_put.2.1 14 = .ok (.getfield 10, 3) := by decide +kernel
theorem dd_F_put_17 : decode mm_F_put.2.1 17 = .ok (.iload_n 2, 1) := by decide +kernel
theorem dd_F_put_18 : decode mm_F_put.2.1 18 = .ok (.invokevirtual 24, 3) := by decide +kernel
theorem dd_F_put_21 : decode mm_F_put.2.1 21 = .ok (.checkcast 28, 3) := by decide +kernel
theorem dd_F_put_24 : decode mm_F_put.2.1 24 = .ok (.getfield 30, 3) := by decide +kernel
theorem dd_F_put_27 : decode mm_F_put.2.1 27 = .ok (.aload_n 1, 1) := by decide +kernel
theorem dd_F_put_28 : decode mm_F_put.2.1 28 = .ok (.getfield 30, 3) := by decide +kernel
theorem dd_F_put_31 : decode mm_F_put.2.1 31 = .ok (.if_icmp .ge 9, 3) := by decide +kernel
theorem dd_F_put_34 : decode mm_F_put.2.1 34 = .ok (.iinc 2 1, 3) := by decide +kernel
theorem dd_F_put_37 : decode mm_F_put.2.1 37 = .ok (.goto (-35), 3) := by decide +kernel
theorem dd_F_put_40 : decode mm_F_put.2.1 40 = .ok (.iload_n 2, 1) := by decide +kernel
theorem dd_F_put_41 : decode mm_F_put.2.1 41 = .ok (.aload_n 0, 1) := by decide +kernel
theorem dd_F_put_42 : decode mm_F_put.2.1 42 = .ok (.getfield 10, 3) := by decide +kernel
theorem dd_F_put_45 : decode mm_F_put.2.1 45 = .ok (.invokevirtual 20, 3) := by decide +kernel
theorem dd_F_put_48 : decode mm_F_put.2.1 48 = .ok (.if_icmp .ge 37, 3) := by decide +kernel
theorem dd_F_put_51 : decode mm_F_put.2.1 51 = .ok (.aload_n 0, 1) := by decide +kernel
theorem dd_F_put_52 : decode mm_F_put.2.1 52 = .ok (.getfield 10, 3) := by decide +kernel
theorem dd_F_put_55 : decode mm_F_put.2.1 55 = .ok (.iload_n 2, 1) := by decide +kernel
theorem dd_F_put_56 : decode mm_F_put.2.1 56 = .ok (.invokevirtual 24, 3) := by decide +kernel
theorem dd_F_put_59 : decode mm_F_put.2.1 59 = .ok (.checkcast 28, 3) := by decide +kernel
theorem dd_F_put_62 : decode mm_F_put.2.1 62 = .ok (.getfield 30, 3) := by decide +kernel
theorem dd_F_put_65 : decode mm_F_put.2.1 65 = .ok (.aload_n 1, 1) := by decide +kernel
theorem dd_F_put_66 : decode mm_F_put.2.1 66 = .ok (.getfield 30, 3) := by decide +kernel
theorem dd_F_put_69 : decode mm_F_put.2.1 69 = .ok (.if_icmp .ne 16, 3) := by decide +kernel
theorem dd_F_put_72 : decode mm_F_put.2.1 72 = .ok (.aload_n 0, 1) := by decide +kernel
theorem dd_F_put_73 : decode mm_F_put.2.1 73 = .ok (.getfield 10, 3) := by decide +kernel
theorem dd_F_put_76 : decode mm_F_put.2.1 76 = .ok (.iload_n 2, 1) := by decide +kernel
theorem dd_F_put_77 : decode mm_F_put.2.1 77 = .ok (.aload_n 1, 1) := by decide +kernel
theorem dd_F_put_78 : decode mm_F_put.2.1 78 = .ok (.invokevirtual 39, 3) := by decide +kernel
theorem dd_F_put_81 : decode mm_F_put.2.1 81 = .ok (.pop, 1) := by decide +kernel
theorem dd_F_put_82 : decode mm_F_put.2.1 82 = .ok (.goto 26, 3) := by decide +kernel
theorem dd_F_put_85 : decode mm_F_put.2.1 85 = .ok (.aload_n 0, 1) := by decide +kernel
theorem dd_F_put_86 : decode mm_F_put.2.1 86 = .ok (.getfield 10, 3) := by decide +kernel
theorem dd_F_put_89 : decode mm_F_put.2.1 89 = .ok (.invokevirtual 20, 3) := by decide +kernel
theorem dd_F_put_92 : decode mm_F_put.2.1 92 = .ok (.aload_n 0, 1) := by decide +kernel
theorem dd_F_put_93 : decode mm_F_put.2.1 93 = .ok (.getfield 16, 3) := by decide +kernel
theorem dd_F_put_96 : decode mm_F_put.2.1 96 = .ok (.if_icmp .ge 12, 3) := by decide +kernel
theorem dd_F_put_99 : decode mm_F_put.2.1 99 = .ok (.aload_n 0, 1) := by decide +kernel
theorem dd_F_put_100 : decode mm_F_put.2.1 100 = .ok (.getfield 10, 3) := by decide +kernel
theorem dd_F_put_103 : decode mm_F_put.2.1 103 = .ok (.iload_n 2, 1) := by decide +kernel
theorem dd_F_put_104 : decode mm_F_put.2.1 104 = .ok (.aload_n 1, 1) := by decide +kernel
theorem dd_F_put_105 : decode mm_F_put.2.1 105 = .ok (.invokevirtual 43, 3) := by decide +kernel
theorem dd_F_put_108 : decode mm_F_put.2.1 108 = .ok (.return_, 1) := by decide +kernel
theorem dd_H_init_0 : decode mm_H_init.2.1 0 = .ok (.aload_n 0, 1) := by decide +kernel
theorem dd_H_init_1 : decode mm_H_init.2.1 1 = .ok (.invokespecial 3, 3) := by decide +kernel
theorem dd_H_init_4 : decode mm_H_init.2.1 4 = .ok (.aload_n 0, 1) := by decide +kernel
theorem dd_H_init_5 : decode mm_H_init.2.1 5 = .ok (.new 9, 3) := by decide +kernel
theorem dd_H_init_8 : decode mm_H_init.2.1 8 = .ok (.dup, 1) := by decide +kernel
theorem dd_H_init_9 : decode mm_H_init.2.1 9 = .ok (.invokespecial 11, 3) := by decide +kernel
theorem dd_H_init_12 : decode mm_H_init.2.1 12 = .ok (.putfield 12, 3) := by decide +kernel
theorem dd_H_init_15 : decode mm_H_init.2.1 15 = .ok (.return_, 1) := by decide +kernel
theorem dd_H_count_0 : decode mm_H_count.2.1 0 = .ok (.aload_n 0, 1) := by decide +kernel
theorem dd_H_count_1 : decode mm_H_count.2.1 1 = .ok (.getfield 12, 3) := by decide +kernel
theorem dd_H_count_4 : decode mm_H_count.2.1 4 = .ok (.invokevirtual 18, 3) := by decide +kernel
theorem dd_H_count_7 : decode mm_H_count.2.1 7 = .ok (.ireturn, 1) := by decide +kernel
theorem dd_H_first_0 : decode mm_H_first.2.1 0 = .ok (.aload_n 0, 1) := by decide +kernel
theorem dd_H_first_1 : decode mm_H_first.2.1 1 = .ok (.getfield 12, 3) := by decide +kernel
theorem dd_H_first_4 : decode mm_H_first.2.1 4 = .ok (.invokevirtual 22, 3) := by decide +kernel
theorem dd_H_first_7 : decode mm_H_first.2.1 7 = .ok (.ifCond .eq 7, 3) := by decide +kernel
theorem dd_H_first_10 : decode mm_H_first.2.1 10 = .ok (.aconst_null, 1) := by decide +kernel
theorem dd_H_first_11 : decode mm_H_first.2.1 11 = .ok (.goto 14, 3) := by decide +kernel
theorem dd_H_first_14 : decode mm_H_first.2.1 14 = .ok (.aload_n 0, 1) := by decide +kernel
theorem dd_H_first_15 : decode mm_H_first.2.1 15 = .ok (.getfield 12, 3) := by decide +kernel
theorem dd_H_first_18 : decode mm_H_first.2.1 18 = .ok (.iconst 0, 1) := by decide +kernel
theorem dd_H_first_19 : decode mm_H_first.2.1 19 = .ok (.invokevirtual 26, 3) := by decide +kernel
theorem dd_H_first_22 : decode mm_H_first.2.1 22 = .ok (.checkcast 30, 3) := by decide +kernel
theorem dd_H_first_25 : decode mm_H_first.2.1 25 = .ok (.areturn, 1) := by decide +kernel
theorem dd_H_forget_0 : decode mm_H_forget.2.1 0 = .ok (.aload_n 0, 1) := by decide +kernel
theorem dd_H_forget_1 : decode mm_H_forget.2.1 1 = .ok (.getfield 12, 3) := by decide +kernel
theorem dd_H_forget_4 : decode mm_H_forget.2.1 4 = .ok (.invokevirtual 57, 3) := by decide +kernel
theorem dd_H_forget_7 : decode mm_H_forget.2.1 7 = .ok (.return_, 1) := by decide +kernel
theorem dd_H_gather_0 : decode mm_H_gather.2.1 0 = .ok (.aload_n 0, 1) := by decide +kernel
theorem dd_H_gather_1 : decode mm_H_gather.2.1 1 = .ok (.iload_n 1, 1) := by decide +kernel
theorem dd_H_gather_2 : decode mm_H_gather.2.1 2 = .ok (.invokevirtual 36, 3) := by decide +kernel
theorem dd_H_gather_5 : decode mm_H_gather.2.1 5 = .ok (.astore_n 3, 1) := by decide +kernel
theorem dd_H_gather_6 : decode mm_H_gather.2.1 6 = .ok (.aload_n 3, 1) := by decide +kernel
theorem dd_H_gather_7 : decode mm_H_gather.2.1 7 = .ok (.ifnonnull 21, 3) := by decide +kernel
theorem dd_H_gather_10 : decode mm_H_gather.2.1 10 = .ok (.new 30, 3) := by decide +kernel
theorem dd_H_gather_13 : decode mm_H_gather.2.1 13 = .ok (.dup, 1) := by decide +kernel
theorem dd_H_gather_14 : decode mm_H_gather.2.1 14 = .ok (.iload_n 1, 1) := by decide +kernel
theorem dd_H_gather_15 : decode mm_H_gather.2.1 15 = .ok (.invokespecial 44, 3) := by decide +kernel
theorem dd_H_gather_18 : decode mm_H_gather.2.1 18 = .ok (.astore_n 3, 1) := by decide +kernel
theorem dd_H_gather_19 : decode mm_H_gather.2.1 19 = .ok (.aload_n 0, 1) := by decide +kernel
theorem dd_H_gather_20 : decode mm_H_gather.2.1 20 = .ok (.getfield 12, 3) := by decide +kernel
theorem dd_H_gather_23 : decode mm_H_gather.2.1 23 = .ok (.aload_n 3, 1) := by decide +kernel
theorem dd_H_gather_24 : decode mm_H_gather.2.1 24 = .ok (.invokevirtual 47, 3) := by decide +kernel
theorem dd_H_gather_27 : decode mm_H_gather.2.1 27 = .ok (.pop, 1) := by decide +kernel
theorem dd_H_gather_28 : decode mm_H_gather.2.1 28 = .ok (.aload_n 3, 1) := by decide +kernel
theorem dd_H_gather_29 : decode mm_H_gather.2.1 29 = .ok (.dup, 1) := by decide +kernel
theorem dd_H_gather_30 : decode mm_H_gather.2.1 30 = .ok (.getfield 51, 3) := by decide +kernel
theorem dd_H_gather_33 : decode mm_H_gather.2.1 33 = .ok (.iload_n 2, 1) := by decide +kernel
theorem dd_H_gather_34 : decode mm_H_gather.2.1 34 = .ok (.ior, 1) := by decide +kernel
theorem dd_H_gather_35 : decode mm_H_gather.2.1 35 = .ok (.putfield 51, 3) := by decide +kernel
theorem dd_H_gather_38 : decode mm_H_gather.2.1 38 = .ok (.aload_n 3, 1) := by decide +kernel
theorem dd_H_gather_39 : decode mm_H_gather.2.1 39 = .ok (.getfield 51, 3) := by decide +kernel
theorem dd_H_gather_42 : decode mm_H_gather.2.1 42 = .ok (.ireturn, 1) := by decide +kernel
theorem dd_H_gatheringOf_0 : decode mm_H_gatheringOf.2.1 0 = .ok (.iconst 0, 1) := by decide +kernel
theorem dd_H_gatheringOf_1 : decode mm_H_gatheringOf.2.1 1 = .ok (.istore_n 2, 1) := by decide +kernel
theorem dd_H_gatheringOf_2 : decode mm_H_gatheringOf.2.1 2 = .ok (.iload_n 2, 1) := by decide +kernel
theorem dd_H_gatheringOf_3 : decode mm_H_gatheringOf.2.1 3 = .ok (.aload_n 0, 1) := by decide +kernel
theorem dd_H_gatheringOf_4 : decode mm_H_gatheringOf.2.1 4 = .ok (.getfield 12, 3) := by decide +kernel
theorem dd_H_gatheringOf_7 : decode mm_H_gatheringOf.2.1 7 = .ok (.invokevirtual 18, 3) := by decide +kernel
theorem dd_H_gatheringOf_10 : decode mm_H_gatheringOf.2.1 10 = .ok (.if_icmp .ge 31, 3) := by decide +kernel
theorem dd_H_gatheringOf_13 : decode mm_H_gatheringOf.2.1 13 = .ok (.aload_n 0, 1) := by decide +kernel
theorem dd_H_gatheringOf_14 : decode mm_H_gatheringOf.2.1 14 = .ok (.getfield 12, 3) := by decide +kernel
theorem dd_H_gatheringOf_17 : decode mm_H_gatheringOf.2.1 17 = .ok (.iload_n 2, 1) := by decide +kernel
theorem dd_H_gatheringOf_18 : decode mm_H_gatheringOf.2.1 18 = .ok (.invokevirtual 26, 3) := by decide +kernel
theorem dd_H_gatheringOf_21 : decode mm_H_gatheringOf.2.1 21 = .ok (.checkcast 30, 3) := by decide +kernel
theorem dd_H_gatheringOf_24 : decode mm_H_gatheringOf.2.1 24 = .ok (.astore_n 3, 1) := by decide +kernel
theorem dd_H_gatheringOf_25 : decode mm_H_gatheringOf.2.1 25 = .ok (.aload_n 3, 1) := by decide +kernel
theorem dd_H_gatheringOf_26 : decode mm_H_gatheringOf.2.1 26 = .ok (.getfield 32, 3) := by decide +kernel
theorem dd_H_gatheringOf_29 : decode mm_H_gatheringOf.2.1 29 = .ok (.iload_n 1, 1) := by decide +kernel
theorem dd_H_gatheringOf_30 : decode mm_H_gatheringOf.2.1 30 = .ok (.if_icmp .ne 5, 3) := by decide +kernel
theorem dd_H_gatheringOf_33 : decode mm_H_gatheringOf.2.1 33 = .ok (.aload_n 3, 1) := by decide +kernel
theorem dd_H_gatheringOf_34 : decode mm_H_gatheringOf.2.1 34 = .ok (.areturn, 1) := by decide +kernel
theorem dd_H_gatheringOf_35 : decode mm_H_gatheringOf.2.1 35 = .ok (.iinc 2 1, 3) := by decide +kernel
theorem dd_H_gatheringOf_38 : decode mm_H_gatheringOf.2.1 38 = .ok (.goto (-36), 3) := by decide +kernel
theorem dd_H_gatheringOf_41 : decode mm_H_gatheringOf.2.1 41 = .ok (.aconst_null, 1) := by decide +kernel
theorem dd_H_gatheringOf_42 : decode mm_H_gatheringOf.2.1 42 = .ok (.areturn, 1) := by decide +kernel
theorem dd_H_inTheWayOf_0 : decode mm_H_inTheWayOf.2.1 0 = .ok (.aload_n 0, 1) := by decide +kernel
theorem dd_H_inTheWayOf_1 : decode mm_H_inTheWayOf.2.1 1 = .ok (.getfield 12, 3) := by decide +kernel
theorem dd_H_inTheWayOf_4 : decode mm_H_inTheWayOf.2.1 4 = .ok (.invokevirtual 18, 3) := by decide +kernel
theorem dd_H_inTheWayOf_7 : decode mm_H_inTheWayOf.2.1 7 = .ok (.iconst 3, 1) := by decide +kernel
theorem dd_H_inTheWayOf_8 : decode mm_H_inTheWayOf.2.1 8 = .ok (.if_icmp .lt 11, 3) := by decide +kernel
theorem dd_H_inTheWayOf_11 : decode mm_H_inTheWayOf.2.1 11 = .ok (.aload_n 0, 1) := by decide +kernel
theorem dd_H_inTheWayOf_12 : decode mm_H_inTheWayOf.2.1 12 = .ok (.iload_n 1, 1) := by decide +kernel
theorem dd_H_inTheWayOf_13 : decode mm_H_inTheWayOf.2.1 13 = .ok (.invokevirtual 36, 3) := by decide +kernel
theorem dd_H_inTheWayOf_16 : decode mm_H_inTheWayOf.2.1 16 = .ok (.ifnull 7, 3) := by decide +kernel
theorem dd_H_inTheWayOf_19 : decode mm_H_inTheWayOf.2.1 19 = .ok (.aconst_null, 1) := by decide +kernel
theorem dd_H_inTheWayOf_20 : decode mm_H_inTheWayOf.2.1 20 = .ok (.goto 7, 3) := by decide +kernel
theorem dd_H_inTheWayOf_23 : decode mm_H_inTheWayOf.2.1 23 = .ok (.aload_n 0, 1) := by decide +kernel
theorem dd_H_inTheWayOf_24 : decode mm_H_inTheWayOf.2.1 24 = .ok (.invokevirtual 40, 3) := by decide +kernel
theorem dd_H_inTheWayOf_27 : decode mm_H_inTheWayOf.2.1 27 = .ok (.areturn, 1) := by decide +kernel
theorem dd_H_recall_0 : decode mm_H_recall.2.1 0 = .ok (.aload_n 0, 1) := by decide +kernel
theorem dd_H_recall_1 : decode mm_H_recall.2.1 1 = .ok (.getfield 12, 3) := by decide +kernel
theorem dd_H_recall_4 : decode mm_H_recall.2.1 4 = .ok (.invokevirtual 57, 3) := by decide +kernel
theorem dd_H_recall_7 : decode mm_H_recall.2.1 7 = .ok (.aload_n 1, 1) := by decide +kernel
theorem dd_H_recall_8 : decode mm_H_recall.2.1 8 = .ok (.invokevirtual 60, 3) := by decide +kernel
theorem dd_H_recall_11 : decode mm_H_recall.2.1 11 = .ok (.istore_n 2, 1) := by decide +kernel
theorem dd_H_recall_12 : decode mm_H_recall.2.1 12 = .ok (.iload_n 2, 1) := by decide +kernel
theorem dd_H_recall_13 : decode mm_H_recall.2.1 13 = .ok (.aload_n 1, 1) := by decide +kernel
theorem dd_H_recall_14 : decode mm_H_recall.2.1 14 = .ok (.invokevirtual 65, 3) := by decide +kernel
theorem dd_H_recall_17 : decode mm_H_recall.2.1 17 = .ok (.if_icmp .ge 61, 3) := by decide +kernel
theorem dd_H_recall_20 : decode mm_H_recall.2.1 20 = .ok (.aload_n 1, 1) := by decide +kernel
theorem dd_H_recall_21 : decode mm_H_recall.2.1 21 = .ok (.iload_n 2, 1) := by decide +kernel
theorem dd_H_recall_22 : decode mm_H_recall.2.1 22 = .ok (.invokevirtual 68, 3) := by decide +kernel
theorem dd_H_recall_25 : decode mm_H_recall.2.1 25 = .ok (.astore_n 3, 1) := by decide +kernel
theorem dd_H_recall_26 : decode mm_H_recall.2.1 26 = .ok (.aload_n 3, 1) := by decide +kernel
theorem dd_H_recall_27 : decode mm_H_recall.2.1 27 = .ok (.ifnonnull 6, 3) := by decide +kernel
theorem dd_H_recall_30 : decode mm_H_recall.2.1 30 = .ok (.goto 42, 3) := by decide +kernel
theorem dd_H_recall_33 : decode mm_H_recall.2.1 33 = .ok (.aload_n 3, 1) := by decide +kernel
theorem dd_H_recall_34 : decode mm_H_recall.2.1 34 = .ok (.bipush 64, 2) := by decide +kernel
theorem dd_H_recall_36 : decode mm_H_recall.2.1 36 = .ok (.invokevirtual 72, 3) := by decide +kernel
theorem dd_H_recall_39 : decode mm_H_recall.2.1 39 = .ok (.ifCond .eq 17, 3) := by decide +kernel
theorem dd_H_recall_42 : decode mm_H_recall.2.1 42 = .ok (.aload_n 0, 1) := by decide +kernel
theorem dd_H_recall_43 : decode mm_H_recall.2.1 43 = .ok (.aload_n 3, 1) := by decide +kernel
theorem dd_H_recall_44 : decode mm_H_recall.2.1 44 = .ok (.getfield 78, 3) := by decide +kernel
theorem dd_H_recall_47 : decode mm_H_recall.2.1 47 = .ok (.getfield 82, 3) := by decide +kernel
theorem dd_H_recall_50 : decode mm_H_recall.2.1 50 = .ok (.invokevirtual 87, 3) := by decide +kernel
theorem dd_H_recall_53 : decode mm_H_recall.2.1 53 = .ok (.goto 19, 3) := by decide +kernel
theorem dd_H_recall_56 : decode mm_H_recall.2.1 56 = .ok (.aload_n 0, 1) := by decide +kernel
theorem dd_H_recall_57 : decode mm_H_recall.2.1 57 = .ok (.aload_n 3, 1) := by decide +kernel
theorem dd_H_recall_58 : decode mm_H_recall.2.1 58 = .ok (.getfield 78, 3) := by decide +kernel
theorem dd_H_recall_61 : decode mm_H_recall.2.1 61 = .ok (.getfield 82, 3) := by decide +kernel
theorem dd_H_recall_64 : decode mm_H_recall.2.1 64 = .ok (.aload_n 3, 1) := by decide +kernel
theorem dd_H_recall_65 : decode mm_H_recall.2.1 65 = .ok (.getfield 90, 3) := by decide +kernel
theorem dd_H_recall_68 : decode mm_H_recall.2.1 68 = .ok (.invokevirtual 91, 3) := by decide +kernel
theorem dd_H_recall_71 : decode mm_H_recall.2.1 71 = .ok (.pop, 1) := by decide +kernel
theorem dd_H_recall_72 : decode mm_H_recall.2.1 72 = .ok (.iinc 2 1, 3) := by decide +kernel
theorem dd_H_recall_75 : decode mm_H_recall.2.1 75 = .ok (.goto (-63), 3) := by decide +kernel
theorem dd_H_recall_78 : decode mm_H_recall.2.1 78 = .ok (.return_, 1) := by decide +kernel
theorem dd_H_take_0 : decode mm_H_take.2.1 0 = .ok (.iconst 0, 1) := by decide +kernel
theorem dd_H_take_1 : decode mm_H_take.2.1 1 = .ok (.istore_n 2, 1) := by decide +kernel
theorem dd_H_take_2 : decode mm_H_take.2.1 2 = .ok (.iload_n 2, 1) := by decide +kernel
theorem dd_H_take_3 : decode mm_H_take.2.1 3 = .ok (.aload_n 0, 1) := by decide +kernel
theorem dd_H_take_4 : decode mm_H_take.2.1 4 = .ok (.getfield 12, 3) := by decide +kernel
theorem dd_H_take_7 : decode mm_H_take.2.1 7 = .ok (.invokevirtual 18, 3) := by decide +kernel
theorem dd_H_take_10 : decode mm_H_take.2.1 10 = .ok (.if_icmp .ge 37, 3) := by decide +kernel
theorem dd_H_take_13 : decode mm_H_take.2.1 13 = .ok (.aload_n 0, 1) := by decide +kernel
theorem dd_H_take_14 : decode mm_H_take.2.1 14 = .ok (.getfield 12, 3) := by decide +kernel
theorem dd_H_take_17 : decode mm_H_take.2.1 17 = .ok (.iload_n 2, 1) := by decide +kernel
theorem dd_H_take_18 : decode mm_H_take.2.1 18 = .ok (.invokevirtual 26, 3) := by decide +kernel
theorem dd_H_take_21 : decode mm_H_take.2.1 21 = .ok (.checkcast 30, 3) := by decide +kernel
theorem dd_H_take_24 : decode mm_H_take.2.1 24 = .ok (.getfield 32, 3) := by decide +kernel
theorem dd_H_take_27 : decode mm_H_take.2.1 27 = .ok (.iload_n 1, 1) := by decide +kernel
theorem dd_H_take_28 : decode mm_H_take.2.1 28 = .ok (.if_icmp .ne 13, 3) := by decide +kernel
theorem dd_H_take_31 : decode mm_H_take.2.1 31 = .ok (.aload_n 0, 1) := by decide +kernel
theorem dd_H_take_32 : decode mm_H_take.2.1 32 = .ok (.getfield 12, 3) := by decide +kernel
theorem dd_H_take_35 : decode mm_H_take.2.1 35 = .ok (.iload_n 2, 1) := by decide +kernel
theorem dd_H_take_36 : decode mm_H_take.2.1 36 = .ok (.invokevirtual 54, 3) := by decide +kernel
theorem dd_H_take_39 : decode mm_H_take.2.1 39 = .ok (.pop, 1) := by decide +kernel
theorem dd_H_take_40 : decode mm_H_take.2.1 40 = .ok (.return_, 1) := by decide +kernel
theorem dd_H_take_41 : decode mm_H_take.2.1 41 = .ok (.iinc 2 1, 3) := by decide +kernel
theorem dd_H_take_44 : decode mm_H_take.2.1 44 = .ok (.goto (-42), 3) := by decide +kernel
theorem dd_H_take_47 : decode mm_H_take.2.1 47 = .ok (.return_, 1) := by decide +kernel
theorem fl_E_7 : xa_F "NotedVolume$Entry" 7 1 0 := ⟨_, _, _, "NotedVolume$Entry", rfl, by decide, ly_1, iw_370, Or.inl rfl⟩
theorem fz_E_7 : xa_Z 1 0 (.int) true "NotedVolume$Entry" := ⟨_, _, _, ty_1, rfl, tk_1, nk_1, rfl, rfl, by decide⟩
theorem fl_E_13 : xa_F "NotedVolume$Entry" 13 1 1 := ⟨_, _, _, "NotedVolume$Entry", rfl, by decide, ly_1, iw_376, Or.inl rfl⟩
theorem fz_E_13 : xa_Z 1 1 (.int) true "NotedVolume$Entry" := ⟨_, _, _, ty_1, rfl, tk_1, nk_1, rfl, rfl, by decide⟩
theorem fl_E_16 : xa_F "NotedVolume$Entry" 16 1 2 := ⟨_, _, _, "NotedVolume$Entry", rfl, by decide, ly_1, iw_378, Or.inl rfl⟩
theorem fz_E_16 : xa_Z 1 2 (.int) true "NotedVolume$Entry" := ⟨_, _, _, ty_1, rfl, tk_1, nk_1, rfl, rfl, by decide⟩
theorem fl_E_19 : xa_F "NotedVolume$Entry" 19 1 3 := ⟨_, _, _, "NotedVolume$Entry", rfl, by decide, ly_1, iw_381, Or.inl rfl⟩
theorem fz_E_19 : xa_Z 1 3 (.int) true "NotedVolume$Entry" := ⟨_, _, _, ty_1, rfl, tk_1, nk_1, rfl, rfl, by decide⟩
theorem fl_E_22 : xa_F "NotedVolume$Entry" 22 1 4 := ⟨_, _, _, "NotedVolume$Entry", rfl, by decide, ly_1, iw_384, Or.inl rfl⟩
theorem fz_E_22 : xa_Z 1 4 (.int) true "NotedVolume$Entry" := ⟨_, _, _, ty_1, rfl, tk_1, nk_1, rfl, rfl, by decide⟩
theorem fl_N_7 : xa_F "NotedVolume$Note" 7 3 0 := ⟨_, _, _, "NotedVolume$Note", rfl, by decide, ly_3, iw_406, Or.inl rfl⟩
theorem fz_N_7 : xa_Z 3 0 (.object "NotedVolume$Entry") true "NotedVolume$Note" := ⟨_, _, _, ty_3, rfl, tk_3, nk_3, rfl, rfl, by decide⟩
theorem fl_N_13 : xa_F "NotedVolume$Note" 13 3 1 := ⟨_, _, _, "NotedVolume$Note", rfl, by decide, ly_3, iw_409, Or.inl rfl⟩
theorem fz_N_13 : xa_Z 3 1 (.int) true "NotedVolume$Note" := ⟨_, _, _, ty_3, rfl, tk_3, nk_3, rfl, rfl, by decide⟩
theorem fl_N_17 : xa_F "NotedVolume$Note" 17 1 0 := ⟨_, _, _, "NotedVolume$Entry", rfl, by decide, ly_1, iw_373, Or.inl rfl⟩
theorem fl_R_11 : xa_F "NotedVolume$Ring" 11 4 0 := ⟨_, _, _, "NotedVolume$Ring", rfl, by decide, ly_4, iw_88, Or.inl rfl⟩
theorem fz_R_11 : xa_Z 4 0 (.array (.object "NotedVolume$Note")) true "NotedVolume$Ring" := ⟨_, _, _, ty_4, rfl, tk_4, nk_4, rfl, rfl, by decide⟩
theorem fl_R_17 : xa_F "NotedVolume$Ring" 17 4 1 := ⟨_, _, _, "NotedVolume$Ring", rfl, by decide, ly_4, iw_89, Or.inl rfl⟩
theorem fz_R_17 : xa_Z 4 1 (.int) false "NotedVolume$Ring" := ⟨_, _, _, ty_4, rfl, tk_4, nk_4, rfl, rfl, by decide⟩
theorem nw_R_9 : xa_N "NotedVolume$Ring" 9 3 [.null, .int 0] := ⟨_, _, _, ty_3, rfl, rfl, tk_3, by decide +kernel, ly_3, iw_86, iw_401, iw_20⟩
theorem fl_G_7 : xa_F "NotedVolume$Gathering" 7 5 0 := ⟨_, _, _, "NotedVolume$Gathering", rfl, by decide, ly_5, iw_276, Or.inl rfl⟩
theorem fz_G_7 : xa_Z 5 0 (.int) true "NotedVolume$Gathering" := ⟨_, _, _, ty_5, rfl, tk_5, nk_5, rfl, rfl, by decide⟩
theorem nw_F_7 : xa_N "NotedVolume$FileTable" 7 8 [.int 0, .null, .int 0] := ⟨_, _, _, ty_8, rfl, rfl, tk_8, by decide +kernel, ly_8, iw_47, iw_48, iw_5⟩
theorem fl_F_10 : xa_F "NotedVolume$FileTable" 10 2 0 := ⟨_, _, _, "NotedVolume$FileTable", rfl, by decide, ly_2, iw_73, Or.inl rfl⟩
theorem fz_F_10 : xa_Z 2 0 (.object "java/util/ArrayList") true "NotedVolume$FileTable" := ⟨_, _, _, ty_2, rfl, tk_2, nk_2, rfl, rfl, by decide⟩
theorem fl_F_16 : xa_F "NotedVolume$FileTable" 16 2 1 := ⟨_, _, _, "NotedVolume$FileTable", rfl, by decide, ly_2, iw_74, Or.inl rfl⟩
theorem fz_F_16 : xa_Z 2 1 (.int) true "NotedVolume$FileTable" := ⟨_, _, _, ty_2, rfl, tk_2, nk_2, rfl, rfl, by decide⟩
theorem fl_F_30 : xa_F "NotedVolume$FileTable" 30 1 0 := ⟨_, _, _, "NotedVolume$Entry", rfl, by decide, ly_1, iw_372, Or.inl rfl⟩
theorem fl_F_33 : xa_F "NotedVolume$FileTable" 33 1 2 := ⟨_, _, _, "NotedVolume$Entry", rfl, by decide, ly_1, iw_380, Or.inl rfl⟩
theorem fl_F_36 : xa_F "NotedVolume$FileTable" 36 1 3 := ⟨_, _, _, "NotedVolume$Entry", rfl, by decide, ly_1, iw_383, Or.inl rfl⟩
theorem nw_H_9 : xa_N "NotedVolume$Gatherings" 9 8 [.int 0, .null, .int 0] := ⟨_, _, _, ty_8, rfl, rfl, tk_8, by decide +kernel, ly_8, iw_101, iw_48, iw_5⟩
theorem fl_H_12 : xa_F "NotedVolume$Gatherings" 12 6 0 := ⟨_, _, _, "NotedVolume$Gatherings", rfl, by decide, ly_6, iw_103, Or.inl rfl⟩
theorem fz_H_12 : xa_Z 6 0 (.object "java/util/ArrayList") true "NotedVolume$Gatherings" := ⟨_, _, _, ty_6, rfl, tk_6, nk_6, rfl, rfl, by decide⟩
theorem nw_H_30 : xa_N "NotedVolume$Gatherings" 30 5 [.int 0, .int 0] := ⟨_, _, _, ty_5, rfl, rfl, tk_5, by decide +kernel, ly_5, iw_251, iw_271, iw_22⟩
theorem fl_H_51 : xa_F "NotedVolume$Gatherings" 51 5 1 := ⟨_, _, _, "NotedVolume$Gathering", rfl, by decide, ly_5, iw_279, Or.inl rfl⟩
theorem fz_H_51 : xa_Z 5 1 (.int) false "NotedVolume$Gatherings" := ⟨_, _, _, ty_5, rfl, tk_5, nk_5, rfl, rfl, by decide⟩
theorem fl_H_32 : xa_F "NotedVolume$Gatherings" 32 5 0 := ⟨_, _, _, "NotedVolume$Gathering", rfl, by decide, ly_5, iw_277, Or.inl rfl⟩
theorem fl_H_78 : xa_F "NotedVolume$Gatherings" 78 3 0 := ⟨_, _, _, "NotedVolume$Note", rfl, by decide, ly_3, iw_408, Or.inl rfl⟩
theorem fl_H_82 : xa_F "NotedVolume$Gatherings" 82 1 0 := ⟨_, _, _, "NotedVolume$Entry", rfl, by decide, ly_1, iw_375, Or.inl rfl⟩
theorem fl_H_90 : xa_F "NotedVolume$Gatherings" 90 3 1 := ⟨_, _, _, "NotedVolume$Note", rfl, by decide, ly_3, iw_410, Or.inl rfl⟩
theorem iv_N_item_48 {G : xa_G} {rest fs : List Value} {h : xa_H} {b : Nat} {a1 : Value} (hb : h b = some (.inr (1, fs))) : xa_inv G mm_N_item mm_E_item 48 (a1 :: .ref b :: rest) [.ref b, a1] rest h := xi_V (n := 1) (As := [a1]) dd_N_item_48 ok_E_item iw_940 iw_924 rfl iw_925 (by decide +kernel) rfl hb
theorem iv_R_append_17 {G : xa_G} {rest : List Value} {h : xa_H} {b : Nat} {a1 a2 : Value} : xa_inv G mm_R_append mm_N_init 17 (a2 :: a1 :: .ref b :: rest) [.ref b, a1, a2] rest h := xi_I (n := 2) (As := [a1, a2]) dd_R_append_17 ok_N_init rfl iw_404 iw_402 iw_403 (by decide +kernel) rfl
theorem iv_R_noteAt_2 {G : xa_G} {rest fs : List Value} {h : xa_H} {b : Nat} (hb : h b = some (.inr (4, fs))) : xa_inv G mm_R_noteAt mm_R_leastKept 2 (.ref b :: rest) [.ref b] rest h := xi_V (n := 0) (As := []) dd_R_noteAt_2 ok_R_leastKept iw_241 iw_212 rfl iw_213 (by decide +kernel) rfl hb
theorem iv_F_init_9 {G : xa_G} {rest : List Value} {h : xa_H} {b : Nat} : xa_inv G mm_F_init mm_A_init 9 (.ref b :: rest) [.ref b] rest h := xi_I (n := 0) (As := []) dd_F_init_9 ok_A_init rfl iw_51 iw_49 iw_50 (by decide +kernel) rfl
theorem iv_F_count_4 {G : xa_G} {rest fs : List Value} {h : xa_H} {b : Nat} (hb : h b = some (.inr (8, fs))) : xa_inv G mm_F_count mm_A_size 4 (.ref b :: rest) [.ref b] rest h := xi_V (n := 0) (As := []) dd_F_count_4 ok_A_size iw_183 iw_172 rfl iw_173 (by decide +kernel) rfl hb
theorem iv_F_drop_7 {G : xa_G} {rest fs : List Value} {h : xa_H} {b : Nat} (hb : h b = some (.inr (8, fs))) : xa_inv G mm_F_drop mm_A_size 7 (.ref b :: rest) [.ref b] rest h := xi_V (n := 0) (As := []) dd_F_drop_7 ok_A_size iw_183 iw_172 rfl iw_173 (by decide +kernel) rfl hb
theorem iv_F_drop_18 {G : xa_G} {rest fs : List Value} {h : xa_H} {b : Nat} {a1 : Value} (hb : h b = some (.inr (8, fs))) : xa_inv G mm_F_drop mm_A_get 18 (a1 :: .ref b :: rest) [.ref b, a1] rest h := xi_V (n := 1) (As := [a1]) dd_F_drop_18 ok_A_get iw_184 iw_185 rfl iw_186 (by decide +kernel) rfl hb
theorem iv_F_drop_36 {G : xa_G} {rest fs : List Value} {h : xa_H} {b : Nat} {a1 : Value} (hb : h b = some (.inr (8, fs))) : xa_inv G mm_F_drop mm_A_remove 36 (a1 :: .ref b :: rest) [.ref b, a1] rest h := xi_V (n := 1) (As := [a1]) dd_F_drop_36 ok_A_remove iw_899 iw_253 rfl iw_254 (by decide +kernel) rfl hb
theorem iv_F_dropRange_4 {G : xa_G} {rest fs : List Value} {h : xa_H} {b : Nat} (hb : h b = some (.inr (8, fs))) : xa_inv G mm_F_dropRange mm_A_size 4 (.ref b :: rest) [.ref b] rest h := xi_V (n := 0) (As := []) dd_F_dropRange_4 ok_A_size iw_183 iw_172 rfl iw_173 (by decide +kernel) rfl hb
theorem iv_F_dropRange_19 {G : xa_G} {rest fs : List Value} {h : xa_H} {b : Nat} {a1 : Value} (hb : h b = some (.inr (8, fs))) : xa_inv G mm_F_dropRange mm_A_get 19 (a1 :: .ref b :: rest) [.ref b, a1] rest h := xi_V (n := 1) (As := [a1]) dd_F_dropRange_19 ok_A_get iw_184 iw_185 rfl iw_186 (by decide +kernel) rfl hb
theorem iv_F_dropRange_47 {G : xa_G} {rest fs : List Value} {h : xa_H} {b : Nat} {a1 : Value} (hb : h b = some (.inr (8, fs))) : xa_inv G mm_F_dropRange mm_A_remove 47 (a1 :: .ref b :: rest) [.ref b, a1] rest h := xi_V (n := 1) (As := [a1]) dd_F_dropRange_47 ok_A_remove iw_899 iw_253 rfl iw_254 (by decide +kernel) rfl hb
theorem iv_F_entryAbove_7 {G : xa_G} {rest fs : List Value} {h : xa_H} {b : Nat} (hb : h b = some (.inr (8, fs))) : xa_inv G mm_F_entryAbove mm_A_size 7 (.ref b :: rest) [.ref b] rest h := xi_V (n := 0) (As := []) dd_F_entryAbove_7 ok_A_size iw_183 iw_172 rfl iw_173 (by decide +kernel) rfl hb
theorem iv_F_entryAbove_18 {G : xa_G} {rest fs : List Value} {h : xa_H} {b : Nat} {a1 : Value} (hb : h b = some (.inr (8, fs))) : xa_inv G mm_F_entryAbove mm_A_get 18 (a1 :: .ref b :: rest) [.ref b, a1] rest h := xi_V (n := 1) (As := [a1]) dd_F_entryAbove_18 ok_A_get iw_184 iw_185 rfl iw_186 (by decide +kernel) rfl hb
theorem iv_F_entryNamed_7 {G : xa_G} {rest fs : List Value} {h : xa_H} {b : Nat} (hb : h b = some (.inr (8, fs))) : xa_inv G mm_F_entryNamed mm_A_size 7 (.ref b :: rest) [.ref b] rest h := xi_V (n := 0) (As := []) dd_F_entryNamed_7 ok_A_size iw_183 iw_172 rfl iw_173 (by decide +kernel) rfl hb
theorem iv_F_entryNamed_18 {G : xa_G} {rest fs : List Value} {h : xa_H} {b : Nat} {a1 : Value} (hb : h b = some (.inr (8, fs))) : xa_inv G mm_F_entryNamed mm_A_get 18 (a1 :: .ref b :: rest) [.ref b, a1] rest h := xi_V (n := 1) (As := [a1]) dd_F_entryNamed_18 ok_A_get iw_184 iw_185 rfl iw_186 (by decide +kernel) rfl hb
theorem iv_F_entryOf_7 {G : xa_G} {rest fs : List Value} {h : xa_H} {b : Nat} (hb : h b = some (.inr (8, fs))) : xa_inv G mm_F_entryOf mm_A_size 7 (.ref b :: rest) [.ref b] rest h := xi_V (n := 0) (As := []) dd_F_entryOf_7 ok_A_size iw_183 iw_172 rfl iw_173 (by decide +kernel) rfl hb
theorem iv_F_entryOf_18 {G : xa_G} {rest fs : List Value} {h : xa_H} {b : Nat} {a1 : Value} (hb : h b = some (.inr (8, fs))) : xa_inv G mm_F_entryOf mm_A_get 18 (a1 :: .ref b :: rest) [.ref b, a1] rest h := xi_V (n := 1) (As := [a1]) dd_F_entryOf_18 ok_A_get iw_184 iw_185 rfl iw_186 (by decide +kernel) rfl hb
theorem iv_F_hasFilesIn_7 {G : xa_G} {rest fs : List Value} {h : xa_H} {b : Nat} (hb : h b = some (.inr (8, fs))) : xa_inv G mm_F_hasFilesIn mm_A_size 7 (.ref b :: rest) [.ref b] rest h := xi_V (n := 0) (As := []) dd_F_hasFilesIn_7 ok_A_size iw_183 iw_172 rfl iw_173 (by decide +kernel) rfl hb
theorem iv_F_hasFilesIn_18 {G : xa_G} {rest fs : List Value} {h : xa_H} {b : Nat} {a1 : Value} (hb : h b = some (.inr (8, fs))) : xa_inv G mm_F_hasFilesIn mm_A_get 18 (a1 :: .ref b :: rest) [.ref b, a1] rest h := xi_V (n := 1) (As := [a1]) dd_F_hasFilesIn_18 ok_A_get iw_184 iw_185 rfl iw_186 (by decide +kernel) rfl hb
theorem iv_F_isLike_4 {G : xa_G} {rest fs : List Value} {h : xa_H} {b : Nat} (hb : h b = some (.inr (8, fs))) : xa_inv G mm_F_isLike mm_A_size 4 (.ref b :: rest) [.ref b] rest h := xi_V (n := 0) (As := []) dd_F_isLike_4 ok_A_size iw_183 iw_172 rfl iw_173 (by decide +kernel) rfl hb
theorem iv_F_isLike_11 {G : xa_G} {rest fs : List Value} {h : xa_H} {b : Nat} (hb : h b = some (.inr (8, fs))) : xa_inv G mm_F_isLike mm_A_size 11 (.ref b :: rest) [.ref b] rest h := xi_V (n := 0) (As := []) dd_F_isLike_11 ok_A_size iw_183 iw_172 rfl iw_173 (by decide +kernel) rfl hb
theorem iv_F_isLike_26 {G : xa_G} {rest fs : List Value} {h : xa_H} {b : Nat} (hb : h b = some (.inr (8, fs))) : xa_inv G mm_F_isLike mm_A_size 26 (.ref b :: rest) [.ref b] rest h := xi_V (n := 0) (As := []) dd_F_isLike_26 ok_A_size iw_183 iw_172 rfl iw_173 (by decide +kernel) rfl hb
theorem iv_F_isLike_37 {G : xa_G} {rest fs : List Value} {h : xa_H} {b : Nat} {a1 : Value} (hb : h b = some (.inr (8, fs))) : xa_inv G mm_F_isLike mm_A_get 37 (a1 :: .ref b :: rest) [.ref b, a1] rest h := xi_V (n := 1) (As := [a1]) dd_F_isLike_37 ok_A_get iw_184 iw_185 rfl iw_186 (by decide +kernel) rfl hb
theorem iv_F_isLike_48 {G : xa_G} {rest fs : List Value} {h : xa_H} {b : Nat} {a1 : Value} (hb : h b = some (.inr (8, fs))) : xa_inv G mm_F_isLike mm_A_get 48 (a1 :: .ref b :: rest) [.ref b, a1] rest h := xi_V (n := 1) (As := [a1]) dd_F_isLike_48 ok_A_get iw_184 iw_185 rfl iw_186 (by decide +kernel) rfl hb
theorem iv_F_isLike_54 {G : xa_G} {rest fs : List Value} {h : xa_H} {b : Nat} {a1 : Value} (hb : h b = some (.inr (1, fs))) : xa_inv G mm_F_isLike mm_E_isLike 54 (a1 :: .ref b :: rest) [.ref b, a1] rest h := xi_V (n := 1) (As := [a1]) dd_F_isLike_54 ok_E_isLike iw_1068 iw_1069 rfl iw_1070 (by decide +kernel) rfl hb
theorem iv_F_put_7 {G : xa_G} {rest fs : List Value} {h : xa_H} {b : Nat} (hb : h b = some (.inr (8, fs))) : xa_inv G mm_F_put mm_A_size 7 (.ref b :: rest) [.ref b] rest h := xi_V (n := 0) (As := []) dd_F_put_7 ok_A_size iw_183 iw_172 rfl iw_173 (by decide +kernel) rfl hb
theorem iv_F_put_18 {G : xa_G} {rest fs : List Value} {h : xa_H} {b : Nat} {a1 : Value} (hb : h b = some (.inr (8, fs))) : xa_inv G mm_F_put mm_A_get 18 (a1 :: .ref b :: rest) [.ref b, a1] rest h := xi_V (n := 1) (As := [a1]) dd_F_put_18 ok_A_get iw_184 iw_185 rfl iw_186 (by decide +kernel) rfl hb
theorem iv_F_put_45 {G : xa_G} {rest fs : List Value} {h : xa_H} {b : Nat} (hb : h b = some (.inr (8, fs))) : xa_inv G mm_F_put mm_A_size 45 (.ref b :: rest) [.ref b] rest h := xi_V (n := 0) (As := []) dd_F_put_45 ok_A_size iw_183 iw_172 rfl iw_173 (by decide +kernel) rfl hb
theorem iv_F_put_56 {G : xa_G} {rest fs : List Value} {h : xa_H} {b : Nat} {a1 : Value} (hb : h b = some (.inr (8, fs))) : xa_inv G mm_F_put mm_A_get 56 (a1 :: .ref b :: rest) [.ref b, a1] rest h := xi_V (n := 1) (As := [a1]) dd_F_put_56 ok_A_get iw_184 iw_185 rfl iw_186 (by decide +kernel) rfl hb
theorem iv_F_put_78 {G : xa_G} {rest fs : List Value} {h : xa_H} {b : Nat} {a1 a2 : Value} (hb : h b = some (.inr (8, fs))) : xa_inv G mm_F_put mm_A_set 78 (a2 :: a1 :: .ref b :: rest) [.ref b, a1, a2] rest h := xi_V (n := 2) (As := [a1, a2]) dd_F_put_78 ok_A_set iw_601 iw_602 rfl iw_603 (by decide +kernel) rfl hb
theorem iv_F_put_89 {G : xa_G} {rest fs : List Value} {h : xa_H} {b : Nat} (hb : h b = some (.inr (8, fs))) : xa_inv G mm_F_put mm_A_size 89 (.ref b :: rest) [.ref b] rest h := xi_V (n := 0) (As := []) dd_F_put_89 ok_A_size iw_183 iw_172 rfl iw_173 (by decide +kernel) rfl hb
theorem iv_F_put_105 {G : xa_G} {rest fs : List Value} {h : xa_H} {b : Nat} {a1 a2 : Value} (hb : h b = some (.inr (8, fs))) : xa_inv G mm_F_put mm_A_add0 105 (a2 :: a1 :: .ref b :: rest) [.ref b, a1, a2] rest h := xi_V (n := 2) (As := [a1, a2]) dd_F_put_105 ok_A_add0 iw_605 iw_606 rfl iw_607 (by decide +kernel) rfl hb
theorem iv_H_init_9 {G : xa_G} {rest : List Value} {h : xa_H} {b : Nat} : xa_inv G mm_H_init mm_A_init 9 (.ref b :: rest) [.ref b] rest h := xi_I (n := 0) (As := []) dd_H_init_9 ok_A_init rfl iw_51 iw_102 iw_50 (by decide +kernel) rfl
theorem iv_H_count_4 {G : xa_G} {rest fs : List Value} {h : xa_H} {b : Nat} (hb : h b = some (.inr (8, fs))) : xa_inv G mm_H_count mm_A_size 4 (.ref b :: rest) [.ref b] rest h := xi_V (n := 0) (As := []) dd_H_count_4 ok_A_size iw_171 iw_172 rfl iw_173 (by decide +kernel) rfl hb
theorem iv_H_first_4 {G : xa_G} {rest fs : List Value} {h : xa_H} {b : Nat} (hb : h b = some (.inr (8, fs))) : xa_inv G mm_H_first mm_A_isEmpty 4 (.ref b :: rest) [.ref b] rest h := xi_V (n := 0) (As := []) dd_H_first_4 ok_A_isEmpty iw_352 iw_353 rfl iw_354 (by decide +kernel) rfl hb
theorem iv_H_first_19 {G : xa_G} {rest fs : List Value} {h : xa_H} {b : Nat} {a1 : Value} (hb : h b = some (.inr (8, fs))) : xa_inv G mm_H_first mm_A_get 19 (a1 :: .ref b :: rest) [.ref b, a1] rest h := xi_V (n := 1) (As := [a1]) dd_H_first_19 ok_A_get iw_250 iw_185 rfl iw_186 (by decide +kernel) rfl hb
theorem iv_H_forget_4 {G : xa_G} {rest fs : List Value} {h : xa_H} {b : Nat} (hb : h b = some (.inr (8, fs))) : xa_inv G mm_H_forget mm_A_clear 4 (.ref b :: rest) [.ref b] rest h := xi_V (n := 0) (As := []) dd_H_forget_4 ok_A_clear iw_231 iw_232 rfl iw_233 (by decide +kernel) rfl hb
theorem iv_H_gather_2 {G : xa_G} {rest fs : List Value} {h : xa_H} {b : Nat} {a1 : Value} (hb : h b = some (.inr (6, fs))) : xa_inv G mm_H_gather mm_H_gatheringOf 2 (a1 :: .ref b :: rest) [.ref b, a1] rest h := xi_V (n := 1) (As := [a1]) dd_H_gather_2 ok_H_gatheringOf iw_267 iw_268 rfl iw_269 (by decide +kernel) rfl hb
theorem iv_H_gather_15 {G : xa_G} {rest : List Value} {h : xa_H} {b : Nat} {a1 : Value} : xa_inv G mm_H_gather mm_G_init 15 (a1 :: .ref b :: rest) [.ref b, a1] rest h := xi_I (n := 1) (As := [a1]) dd_H_gather_15 ok_G_init rfl iw_274 iw_272 iw_273 (by decide +kernel) rfl
theorem iv_H_gather_24 {G : xa_G} {rest fs : List Value} {h : xa_H} {b : Nat} {a1 : Value} (hb : h b = some (.inr (8, fs))) : xa_inv G mm_H_gather mm_A_add1 24 (a1 :: .ref b :: rest) [.ref b, a1] rest h := xi_V (n := 1) (As := [a1]) dd_H_gather_24 ok_A_add1 iw_286 iw_287 rfl iw_288 (by decide +kernel) rfl hb
theorem iv_H_gatheringOf_7 {G : xa_G} {rest fs : List Value} {h : xa_H} {b : Nat} (hb : h b = some (.inr (8, fs))) : xa_inv G mm_H_gatheringOf mm_A_size 7 (.ref b :: rest) [.ref b] rest h := xi_V (n := 0) (As := []) dd_H_gatheringOf_7 ok_A_size iw_171 iw_172 rfl iw_173 (by decide +kernel) rfl hb
theorem iv_H_gatheringOf_18 {G : xa_G} {rest fs : List Value} {h : xa_H} {b : Nat} {a1 : Value} (hb : h b = some (.inr (8, fs))) : xa_inv G mm_H_gatheringOf mm_A_get 18 (a1 :: .ref b :: rest) [.ref b, a1] rest h := xi_V (n := 1) (As := [a1]) dd_H_gatheringOf_18 ok_A_get iw_250 iw_185 rfl iw_186 (by decide +kernel) rfl hb
theorem iv_H_inTheWayOf_4 {G : xa_G} {rest fs : List Value} {h : xa_H} {b : Nat} (hb : h b = some (.inr (8, fs))) : xa_inv G mm_H_inTheWayOf mm_A_size 4 (.ref b :: rest) [.ref b] rest h := xi_V (n := 0) (As := []) dd_H_inTheWayOf_4 ok_A_size iw_171 iw_172 rfl iw_173 (by decide +kernel) rfl hb
theorem iv_H_inTheWayOf_13 {G : xa_G} {rest fs : List Value} {h : xa_H} {b : Nat} {a1 : Value} (hb : h b = some (.inr (6, fs))) : xa_inv G mm_H_inTheWayOf mm_H_gatheringOf 13 (a1 :: .ref b :: rest) [.ref b, a1] rest h := xi_V (n := 1) (As := [a1]) dd_H_inTheWayOf_13 ok_H_gatheringOf iw_267 iw_268 rfl iw_269 (by decide +kernel) rfl hb
theorem iv_H_inTheWayOf_24 {G : xa_G} {rest fs : List Value} {h : xa_H} {b : Nat} (hb : h b = some (.inr (6, fs))) : xa_inv G mm_H_inTheWayOf mm_H_first 24 (.ref b :: rest) [.ref b] rest h := xi_V (n := 0) (As := []) dd_H_inTheWayOf_24 ok_H_first iw_583 iw_349 rfl iw_350 (by decide +kernel) rfl hb
theorem iv_H_recall_4 {G : xa_G} {rest fs : List Value} {h : xa_H} {b : Nat} (hb : h b = some (.inr (8, fs))) : xa_inv G mm_H_recall mm_A_clear 4 (.ref b :: rest) [.ref b] rest h := xi_V (n := 0) (As := []) dd_H_recall_4 ok_A_clear iw_231 iw_232 rfl iw_233 (by decide +kernel) rfl hb
theorem iv_H_recall_8 {G : xa_G} {rest fs : List Value} {h : xa_H} {b : Nat} (hb : h b = some (.inr (4, fs))) : xa_inv G mm_H_recall mm_R_leastKept 8 (.ref b :: rest) [.ref b] rest h := xi_V (n := 0) (As := []) dd_H_recall_8 ok_R_leastKept iw_235 iw_212 rfl iw_213 (by decide +kernel) rfl hb
theorem iv_H_recall_14 {G : xa_G} {rest fs : List Value} {h : xa_H} {b : Nat} (hb : h b = some (.inr (4, fs))) : xa_inv G mm_H_recall mm_R_nextSerial 14 (.ref b :: rest) [.ref b] rest h := xi_V (n := 0) (As := []) dd_H_recall_14 ok_R_nextSerial iw_236 iw_220 rfl iw_221 (by decide +kernel) rfl hb
theorem iv_H_recall_22 {G : xa_G} {rest fs : List Value} {h : xa_H} {b : Nat} {a1 : Value} (hb : h b = some (.inr (4, fs))) : xa_inv G mm_H_recall mm_R_noteAt 22 (a1 :: .ref b :: rest) [.ref b, a1] rest h := xi_V (n := 1) (As := [a1]) dd_H_recall_22 ok_R_noteAt iw_237 iw_238 rfl iw_239 (by decide +kernel) rfl hb
theorem iv_H_recall_36 {G : xa_G} {rest fs : List Value} {h : xa_H} {b : Nat} {a1 : Value} (hb : h b = some (.inr (3, fs))) : xa_inv G mm_H_recall mm_N_hasAny 36 (a1 :: .ref b :: rest) [.ref b, a1] rest h := xi_V (n := 1) (As := [a1]) dd_H_recall_36 ok_N_hasAny iw_242 iw_243 rfl iw_244 (by decide +kernel) rfl hb
theorem iv_H_recall_50 {G : xa_G} {rest fs : List Value} {h : xa_H} {b : Nat} {a1 : Value} (hb : h b = some (.inr (6, fs))) : xa_inv G mm_H_recall mm_H_take 50 (a1 :: .ref b :: rest) [.ref b, a1] rest h := xi_V (n := 1) (As := [a1]) dd_H_recall_50 ok_H_take iw_246 iw_247 rfl iw_248 (by decide +kernel) rfl hb
theorem iv_H_recall_68 {G : xa_G} {rest fs : List Value} {h : xa_H} {b : Nat} {a1 a2 : Value} (hb : h b = some (.inr (6, fs))) : xa_inv G mm_H_recall mm_H_gather 68 (a2 :: a1 :: .ref b :: rest) [.ref b, a1, a2] rest h := xi_V (n := 2) (As := [a1, a2]) dd_H_recall_68 ok_H_gather iw_263 iw_264 rfl iw_265 (by decide +kernel) rfl hb
theorem iv_H_take_7 {G : xa_G} {rest fs : List Value} {h : xa_H} {b : Nat} (hb : h b = some (.inr (8, fs))) : xa_inv G mm_H_take mm_A_size 7 (.ref b :: rest) [.ref b] rest h := xi_V (n := 0) (As := []) dd_H_take_7 ok_A_size iw_171 iw_172 rfl iw_173 (by decide +kernel) rfl hb
theorem iv_H_take_18 {G : xa_G} {rest fs : List Value} {h : xa_H} {b : Nat} {a1 : Value} (hb : h b = some (.inr (8, fs))) : xa_inv G mm_H_take mm_A_get 18 (a1 :: .ref b :: rest) [.ref b, a1] rest h := xi_V (n := 1) (As := [a1]) dd_H_take_18 ok_A_get iw_250 iw_185 rfl iw_186 (by decide +kernel) rfl hb
theorem iv_H_take_36 {G : xa_G} {rest fs : List Value} {h : xa_H} {b : Nat} {a1 : Value} (hb : h b = some (.inr (8, fs))) : xa_inv G mm_H_take mm_A_remove 36 (a1 :: .ref b :: rest) [.ref b, a1] rest h := xi_V (n := 1) (As := [a1]) dd_H_take_36 ok_A_remove iw_252 iw_253 rfl iw_254 (by decide +kernel) rfl hb
theorem ol_E_1 : Cond.methodLink "NotedVolume$Entry" 1 ⟨"java/lang/Object", "<init>", "()V"⟩ ∈ xv_T := iw_369
theorem ol_N_1 : Cond.methodLink "NotedVolume$Note" 1 ⟨"java/lang/Object", "<init>", "()V"⟩ ∈ xv_T := iw_405
theorem ol_R_3 : Cond.methodLink "NotedVolume$Ring" 3 ⟨"java/lang/Object", "<init>", "()V"⟩ ∈ xv_T := iw_85
theorem an_R_9 : Cond.classLink "NotedVolume$Ring" 9 "NotedVolume$Note" ∈ xv_T := iw_86
theorem ol_G_1 : Cond.methodLink "NotedVolume$Gathering" 1 ⟨"java/lang/Object", "<init>", "()V"⟩ ∈ xv_T := iw_275
theorem ol_F_1 : Cond.methodLink "NotedVolume$FileTable" 1 ⟨"java/lang/Object", "<init>", "()V"⟩ ∈ xv_T := iw_46
theorem cc_F_28 : Cond.classLink "NotedVolume$FileTable" 28 "NotedVolume$Entry" ∈ xv_T := iw_198
theorem ol_H_3 : Cond.methodLink "NotedVolume$Gatherings" 3 ⟨"java/lang/Object", "<init>", "()V"⟩ ∈ xv_T := iw_100
theorem cc_H_30 : Cond.classLink "NotedVolume$Gatherings" 30 "NotedVolume$Gathering" ∈ xv_T := iw_251
end
section
/-! what the volume is: files, the latest number, the next serial, the ring's cells, the open gatherings, power, writes left -/
abbrev sv_E : Type := Int32 × Int32 × Int32 × Int32 × Int32
abbrev sv_V : Type := List sv_E × Nat × Nat × (Nat → Nat → Int32) × List (Int32 × Int32) × Bool × Int32
abbrev sv_fs (V : sv_V) : List sv_E := V.1
abbrev sv_lt (V : sv_V) : Nat := V.2.1
abbrev sv_hd (V : sv_V) : Nat := V.2.2.1
abbrev sv_rg (V : sv_V) : Nat → Nat → Int32 := V.2.2.2.1
abbrev sv_gs (V : sv_V) : List (Int32 × Int32) := V.2.2.2.2.1
abbrev sv_on (V : sv_V) : Bool := V.2.2.2.2.2.1
abbrev sv_lf (V : sv_V) : Int32 := V.2.2.2.2.2.2
def sv_item (e : sv_E) (r : Int32) (k : Nat) : Int32 := if k = 0 then e.1 else if k = 1 then e.2.1 else if k = 2 then e.2.2.1 else if k = 3 then e.2.2.2.1 else if k = 4 then e.2.2.2.2 else r
/-- a write is counted off; false when power fails in its place -/
def sv_spend (V : sv_V) : Bool × sv_V := match V with
  | (fs, lt, hd, rg, gs, on, lf) => if lf = 0 then (false, (fs, lt, hd, rg, [], false, lf)) else (true, (fs, lt, hd, rg, gs, on, if 0 < lf then lf - 1 else lf))
def sv_app (V : sv_V) (e : sv_E) (r : Int32) : sv_V := match V with
  | (fs, lt, hd, rg, gs, on, lf) => (fs, lt, hd + 1, (fun i => if i = hd % 16 then sv_item e r else rg i), gs, on, lf)
def sv_find (fs : List sv_E) (n : Int32) : Option sv_E := fs.find? (fun e => decide (e.1 = n))
def sv_take (gs : List (Int32 × Int32)) (f : Int32) : List (Int32 × Int32) := gs.eraseP (fun g => decide (g.1 = f))
def sv_setG (V : sv_V) (gs' : List (Int32 × Int32)) : sv_V := match V with
  | (fs, lt, hd, rg, _, on, lf) => (fs, lt, hd, rg, gs', on, lf)
def sv_endG (V : sv_V) (g : Int32 × Int32) : sv_V := sv_setG (sv_app V ((sv_find (sv_fs V) g.1).getD (g.1, 0, 0, 0, 0)) (g.2 ||| 64)) (sv_take (sv_gs V) g.1)
def sv_closeG (V : sv_V) (g : Int32 × Int32) : Bool × sv_V := if (sv_spend V).1 then (true, sv_endG (sv_spend V).2 g) else (false, (sv_spend V).2)
def sv_gOf (gs : List (Int32 × Int32)) (f : Int32) : Option (Int32 × Int32) := gs.find? (fun g => decide (g.1 = f))
/-- reasons added to a file's gathering, opened if need be -/
def sv_gather : List (Int32 × Int32) → Int32 → Int32 → Int32 × List (Int32 × Int32)
  | [], f, r => (r, [(f, r)])
  | g :: gs, f, r => if g.1 = f then (g.2 ||| r, (g.1, g.2 ||| r) :: gs) else ((sv_gather gs f r).1, g :: (sv_gather gs f r).2)
/-- room for a gathering of the file -/
def sv_open (V : sv_V) (f : Int32) : Bool × sv_V := if (sv_gs V).length < 3 ∨ (sv_gOf (sv_gs V) f).isSome then (true, V) else match (sv_gs V).head? with
  | none => (true, V)
  | some g => sv_closeG V g
def sv_note (V : sv_V) (e : sv_E) (r : Int32) : Bool × sv_V := if (sv_spend V).1 then (true, sv_app (sv_setG (sv_spend V).2 (sv_gather (sv_gs (sv_spend V).2) e.1 r).2) e (sv_gather (sv_gs (sv_spend V).2) e.1 r).1) else (false, (sv_spend V).2)
/-- the last note of a change, with room for its gathering made first -/
def sv_chg (V : sv_V) (e : sv_E) (r : Int32) : Bool × sv_V := if (sv_open V e.1).1 then sv_note (sv_open V e.1).2 e r else (false, (sv_open V e.1).2)
end
section
/-! Entry, Note, Ring, Gathering -/
abbrev en_c (e : sv_E) : xa_E := .inr (1, [.int e.1, .int e.2.1, .int e.2.2.1, .int e.2.2.2.1, .int e.2.2.2.2])
abbrev nt_c (e : Nat) (r : Int32) : xa_E := .inr (3, [.ref e, .int r])
abbrev gt_c (f r : Int32) : xa_E := .inr (5, [.int f, .int r])
/-- a cell alone is written -/
def xq_put (h : xa_H) (sz a : Nat) (e : xa_E) : Outcome → xa_H → Nat → Prop := fun o h' z => o = .returned none ∧ z = sz ∧ h' a = some e ∧ ∀ b, b ≠ a → h' b = h b
section LF
variable {G : xa_G} {h : xa_H} {sz : Nat}
theorem ct_E_init {a : Nat} {n s p nm mk : Int32} (ha : h a = some (.inr (1, [.int 0, .int 0, .int 0, .int 0, .int 0]))) (hB : G.2.2.1 ≤ a) : xa_T G mm_E_init 1 0 0 [.ref a, .int n, .int s, .int p, .int nm, .int mk] h sz (xq_put h sz a (en_c (n, s, p, nm, mk))) := by
  refine xt_o ok_E_init rfl rfl ?_
  refine xw_aloadR_n dd_E_init_0 rfl ?_
  refine xw_objInit ol_E_1 wo_in wo_co (by decide) (by decide) dd_E_init_1 ?_
  refine xw_aloadR_n dd_E_init_4 rfl ?_
  refine xw_iload_n dd_E_init_5 rfl ?_
  refine xw_putA fl_E_7 fz_E_7 (by decide) dd_E_init_6 ha rfl hB rfl rfl (fun h1 n1 f1 => ?_)
  refine xw_aloadR_n dd_E_init_9 rfl ?_
  refine xw_iload_n dd_E_init_10 rfl ?_
  refine xw_putA fl_E_13 fz_E_13 (by decide) dd_E_init_11 n1 rfl hB rfl rfl (fun h2 n2 f2 => ?_)
  refine xw_aloadR_n dd_E_init_14 rfl ?_
  refine xw_iload_n dd_E_init_15 rfl ?_
  refine xw_putA fl_E_16 fz_E_16 (by decide) dd_E_init_16 n2 rfl hB rfl rfl (fun h3 n3 f3 => ?_)
  refine xw_aloadR_n dd_E_init_19 rfl ?_
  refine xw_iload dd_E_init_20 rfl ?_
  refine xw_putA fl_E_19 fz_E_19 (by decide) dd_E_init_22 n3 rfl hB rfl rfl (fun h4 n4 f4 => ?_)
  refine xw_aloadR_n dd_E_init_25 rfl ?_
  refine xw_iload dd_E_init_26 rfl ?_
  refine xw_putA fl_E_22 fz_E_22 (by decide) dd_E_init_28 n4 rfl hB rfl rfl (fun h5 n5 f5 => ?_)
  exact xw_vret dd_E_init_31 rfl ⟨rfl, rfl, n5, fun b hb => (f5 b hb).trans ((f4 b hb).trans ((f3 b hb).trans ((f2 b hb).trans (f1 b hb))))⟩
/-- what an entry tells: its items by number -/
def sv_it (e : sv_E) (k : Nat) : Int32 := if k = 0 then e.2.1 else if k = 1 then e.2.2.1 else if k = 2 then e.2.2.2.1 else e.2.2.2.2
theorem ct_E_item {a k : Nat} {e : sv_E} (ha : h a = some (en_c e)) (hk : k < 4) : xa_T G mm_E_item 0 0 0 [.ref a, .int (nI k)] h sz (xq_same h sz (some (.int (sv_it e k)))) := by
  refine xt_o ok_E_item rfl rfl ?_
  refine xw_iload_n dd_E_item_0 rfl ?_
  rcases (show k = 0 ∨ k = 1 ∨ k = 2 ∨ k = 3 by omega) with rfl | rfl | rfl | rfl
  · refine xw_tableIn 28 dd_E_item_1 (by decide) (by decide) rfl (by decide) ?_
    refine xw_aloadR_n dd_E_item_28 rfl ?_
    refine xw_get fl_E_13 dd_E_item_29 ha rfl ?_
    exact xw_iret dd_E_item_32 rfl ⟨rfl, rfl, rfl⟩
  · refine xw_tableIn 33 dd_E_item_1 (by decide) (by decide) rfl (by decide) ?_
    refine xw_aloadR_n dd_E_item_33 rfl ?_
    refine xw_get fl_E_16 dd_E_item_34 ha rfl ?_
    exact xw_iret dd_E_item_37 rfl ⟨rfl, rfl, rfl⟩
  · refine xw_tableIn 38 dd_E_item_1 (by decide) (by decide) rfl (by decide) ?_
    refine xw_aloadR_n dd_E_item_38 rfl ?_
    refine xw_get fl_E_19 dd_E_item_39 ha rfl ?_
    exact xw_iret dd_E_item_42 rfl ⟨rfl, rfl, rfl⟩
  · refine xw_tableOut 43 dd_E_item_1 (by decide) (by decide) ?_
    refine xw_aloadR_n dd_E_item_43 rfl ?_
    refine xw_get fl_E_22 dd_E_item_44 ha rfl ?_
    exact xw_iret dd_E_item_47 rfl ⟨rfl, rfl, rfl⟩
theorem ct_E_isLike {a b : Nat} {e e2 : sv_E} (ha : h a = some (en_c e)) (hb : h b = some (en_c e2)) : xa_T G mm_E_isLike 0 0 0 [.ref a, .ref b] h sz (xq_same h sz (some (.int (if e = e2 then 1 else 0)))) := by
  obtain ⟨n1, s1, p1, m1, k1⟩ := e
  obtain ⟨n2, s2, p2, m2, k2⟩ := e2
  refine xt_o ok_E_isLike rfl rfl ?_
  have no : ¬ ((n1, s1, p1, m1, k1) = (n2, s2, p2, m2, k2)) → xa_W G mm_E_isLike 0 0 0 59 [some (.ref a), some (.ref b)] [] h sz (xq_same h sz (some (.int (if (n1, s1, p1, m1, k1) = (n2, s2, p2, m2, k2) then 1 else 0)))) := by
    intro hne
    refine xw_iconst 0 dd_E_isLike_59 (by decide) ?_
    exact xw_zret dd_E_isLike_60 rfl rfl ⟨by rw [if_neg hne], rfl, rfl⟩
  refine xw_aloadR_n dd_E_isLike_0 rfl ?_
  refine xw_get fl_E_7 dd_E_isLike_1 ha rfl ?_
  refine xw_aloadR_n dd_E_isLike_4 rfl ?_
  refine xw_get fl_E_7 dd_E_isLike_5 hb rfl ?_
  refine xw_icmp_ne 59 dd_E_isLike_8 (by decide) (fun hc => no (fun q => hc (by injection q))) (fun c1 => ?_)
  refine xw_aloadR_n dd_E_isLike_11 rfl ?_
  refine xw_get fl_E_13 dd_E_isLike_12 ha rfl ?_
  refine xw_aloadR_n dd_E_isLike_15 rfl ?_
  refine xw_get fl_E_13 dd_E_isLike_16 hb rfl ?_
  refine xw_icmp_ne 59 dd_E_isLike_19 (by decide) (fun hc => no (fun q => hc (by simp at q; exact q.2.1))) (fun c2 => ?_)
  refine xw_aloadR_n dd_E_isLike_22 rfl ?_
  refine xw_get fl_E_16 dd_E_isLike_23 ha rfl ?_
  refine xw_aloadR_n dd_E_isLike_26 rfl ?_
  refine xw_get fl_E_16 dd_E_isLike_27 hb rfl ?_
  refine xw_icmp_ne 59 dd_E_isLike_30 (by decide) (fun hc => no (fun q => hc (by simp at q; exact q.2.2.1))) (fun c3 => ?_)
  refine xw_aloadR_n dd_E_isLike_33 rfl ?_
  refine xw_get fl_E_19 dd_E_isLike_34 ha rfl ?_
  refine xw_aloadR_n dd_E_isLike_37 rfl ?_
  refine xw_get fl_E_19 dd_E_isLike_38 hb rfl ?_
  refine xw_icmp_ne 59 dd_E_isLike_41 (by decide) (fun hc => no (fun q => hc (by simp at q; exact q.2.2.2.1))) (fun c4 => ?_)
  refine xw_aloadR_n dd_E_isLike_44 rfl ?_
  refine xw_get fl_E_22 dd_E_isLike_45 ha rfl ?_
  refine xw_aloadR_n dd_E_isLike_48 rfl ?_
  refine xw_get fl_E_22 dd_E_isLike_49 hb rfl ?_
  refine xw_icmp_ne 59 dd_E_isLike_52 (by decide) (fun hc => no (fun q => hc (by simp at q; exact q.2.2.2.2))) (fun c5 => ?_)
  refine xw_iconst 1 dd_E_isLike_55 (by decide) ?_
  refine xw_goto 60 dd_E_isLike_56 (by decide) ?_
  refine xw_zret dd_E_isLike_60 rfl rfl ⟨?_, rfl, rfl⟩
  have c1 : n1 = n2 := c1
  have c2 : s1 = s2 := c2
  have c3 : p1 = p2 := c3
  have c4 : m1 = m2 := c4
  have c5 : k1 = k2 := c5
  subst c1 c2 c3 c4 c5
  rw [if_pos rfl]
theorem ct_N_init {a e : Nat} {r : Int32} (ha : h a = some (.inr (3, [.null, .int 0]))) (hB : G.2.2.1 ≤ a) : xa_T G mm_N_init 1 0 0 [.ref a, .ref e, .int r] h sz (xq_put h sz a (nt_c e r)) := by
  refine xt_o ok_N_init rfl rfl ?_
  refine xw_aloadR_n dd_N_init_0 rfl ?_
  refine xw_objInit ol_N_1 wo_in wo_co (by decide) (by decide) dd_N_init_1 ?_
  refine xw_aloadR_n dd_N_init_4 rfl ?_
  refine xw_aloadR_n dd_N_init_5 rfl ?_
  refine xw_putA fl_N_7 fz_N_7 (by decide) dd_N_init_6 ha rfl hB rfl rfl (fun h1 n1 f1 => ?_)
  refine xw_aloadR_n dd_N_init_9 rfl ?_
  refine xw_iload_n dd_N_init_10 rfl ?_
  refine xw_putA fl_N_13 fz_N_13 (by decide) dd_N_init_11 n1 rfl hB rfl rfl (fun h2 n2 f2 => ?_)
  exact xw_vret dd_N_init_14 rfl ⟨rfl, rfl, n2, fun b hb => (f2 b hb).trans (f1 b hb)⟩
theorem ct_N_hasAny {a e : Nat} {r k : Int32} (ha : h a = some (nt_c e r)) : xa_T G mm_N_hasAny 0 0 0 [.ref a, .int k] h sz (xq_same h sz (some (.int (if r &&& k = 0 then 0 else 1)))) := by
  refine xt_o ok_N_hasAny rfl rfl ?_
  refine xw_aloadR_n dd_N_hasAny_0 rfl ?_
  refine xw_get fl_N_13 dd_N_hasAny_1 ha rfl ?_
  refine xw_iload_n dd_N_hasAny_4 rfl ?_
  refine xw_iand dd_N_hasAny_5 ?_
  refine xw_if_eq 13 dd_N_hasAny_6 (by decide) (fun hc => ?_) (fun hc => ?_)
  · refine xw_iconst 0 dd_N_hasAny_13 (by decide) ?_
    exact xw_zret dd_N_hasAny_14 rfl rfl ⟨by rw [if_pos hc], rfl, rfl⟩
  · refine xw_iconst 1 dd_N_hasAny_9 (by decide) ?_
    refine xw_goto 14 dd_N_hasAny_10 (by decide) ?_
    exact xw_zret dd_N_hasAny_14 rfl rfl ⟨by rw [if_neg hc], rfl, rfl⟩
theorem ct_N_item {a b k : Nat} {e : sv_E} {r : Int32} (ha : h a = some (nt_c b r)) (hb : h b = some (en_c e)) (hk : k < 6) : xa_T G mm_N_item 1 0 0 [.ref a, .int (nI k)] h sz (xq_same h sz (some (.int (sv_item e r k)))) := by
  have mid : ∀ j, j < 4 → k = j + 1 → xa_W G mm_N_item 1 0 0 41 [some (.ref a), some (.int (nI k))] [] h sz (xq_same h sz (some (.int (sv_item e r k)))) := by
    intro j hj hkj
    refine xw_aloadR_n dd_N_item_41 rfl ?_
    refine xw_get fl_N_7 dd_N_item_42 ha rfl ?_
    refine xw_iload_n dd_N_item_45 rfl ?_
    refine xw_iconst 1 dd_N_item_46 (by decide) ?_
    refine xw_isub dd_N_item_47 ?_
    rw [hkj, nI_pred]
    refine xw_cl0 (ct_E_item hb hj) (iv_N_item_48 hb) ok_E_item rfl rfl rfl ?_ (fun _ _ _ q => by cases q.1)
    rintro v h1 z1 ⟨hv, rfl, rfl⟩
    cases hv
    refine xw_iret dd_N_item_51 rfl ⟨?_, rfl, rfl⟩
    rcases (show j = 0 ∨ j = 1 ∨ j = 2 ∨ j = 3 by omega) with rfl | rfl | rfl | rfl <;> rfl
  refine xt_o ok_N_item rfl rfl ?_
  refine xw_iload_n dd_N_item_0 rfl ?_
  rcases (show k = 0 ∨ k = 5 ∨ k = 1 ∨ k = 2 ∨ k = 3 ∨ k = 4 by omega) with rfl | rfl | rfl | rfl | rfl | rfl
  · refine xw_lookup (off := 27) 28 dd_N_item_1 rfl (by decide) (by decide) ?_
    refine xw_aloadR_n dd_N_item_28 rfl ?_
    refine xw_get fl_N_7 dd_N_item_29 ha rfl ?_
    refine xw_get fl_N_17 dd_N_item_32 hb rfl ?_
    exact xw_iret dd_N_item_35 rfl ⟨rfl, rfl, rfl⟩
  · refine xw_lookup (off := 35) 36 dd_N_item_1 rfl (by decide) (by decide) ?_
    refine xw_aloadR_n dd_N_item_36 rfl ?_
    refine xw_get fl_N_13 dd_N_item_37 ha rfl ?_
    exact xw_iret dd_N_item_40 rfl ⟨rfl, rfl, rfl⟩
  · exact xw_lookup (off := 40) 41 dd_N_item_1 rfl (by decide) (by decide) (mid 0 (by omega) rfl)
  · exact xw_lookup (off := 40) 41 dd_N_item_1 rfl (by decide) (by decide) (mid 1 (by omega) rfl)
  · exact xw_lookup (off := 40) 41 dd_N_item_1 rfl (by decide) (by decide) (mid 2 (by omega) rfl)
  · exact xw_lookup (off := 40) 41 dd_N_item_1 rfl (by decide) (by decide) (mid 3 (by omega) rfl)
theorem ct_G_init {a : Nat} {f : Int32} (ha : h a = some (.inr (5, [.int 0, .int 0]))) (hB : G.2.2.1 ≤ a) : xa_T G mm_G_init 1 0 0 [.ref a, .int f] h sz (xq_put h sz a (gt_c f 0)) := by
  refine xt_o ok_G_init rfl rfl ?_
  refine xw_aloadR_n dd_G_init_0 rfl ?_
  refine xw_objInit ol_G_1 wo_in wo_co (by decide) (by decide) dd_G_init_1 ?_
  refine xw_aloadR_n dd_G_init_4 rfl ?_
  refine xw_iload_n dd_G_init_5 rfl ?_
  refine xw_putA fl_G_7 fz_G_7 (by decide) dd_G_init_6 ha rfl hB rfl rfl (fun h1 n1 f1 => ?_)
  exact xw_vret dd_G_init_9 rfl ⟨rfl, rfl, n1, f1⟩
/-- the ring at r, its cells at c: what its places hold, the next serial -/
def rg_at (h : xa_H) (r c hd : Nat) (f : Nat → Option Nat) : Prop := h r = some (.inr (4, [.ref c, .int (nI hd)])) ∧ h c = some (xr_q 4 16 f) ∧ 1 ≤ hd ∧ hd < 1000000
def rg_tl (hd : Nat) : Nat := if 16 < hd then hd - 16 else 1
theorem ct_R_init {a : Nat} (ha : h a = some (.inr (4, [.null, .int 0]))) (hB : G.2.2.1 ≤ a) : xa_T G mm_R_init 1 1 16 [.ref a] h sz (fun o h' z => o = .returned none ∧ z = sz + 1 ∧ rg_at h' a sz 1 (fun _ => none) ∧ ∀ b, b ≠ a → b ≠ sz → h' b = h b) := by
  refine xt_o ok_R_init rfl rfl ?_
  refine xw_dom (fun hd _ => ?_)
  have hla := hd _ _ ha
  refine xw_aloadR_n dd_R_init_0 rfl ?_
  refine xw_objInit ol_R_3 wo_in wo_co (by decide) (by decide) dd_R_init_1 ?_
  refine xw_aloadR_n dd_R_init_4 rfl ?_
  refine xw_bipush 16 dd_R_init_5 (by decide) ?_
  refine xw_less (kc' := 0 + 1) (ks' := 0 + 16) (by decide) (by decide) ?_
  refine xw_anewA (t := 4) (N := 16) rfl an_R_9 (by decide) dd_R_init_7 (by decide) (by decide) (by decide) (fun h1 n1 f1 => ?_)
  refine xw_putA fl_R_11 fz_R_11 (by decide) dd_R_init_10 ((f1 a (by omega)).trans ha) rfl hB rfl rfl (fun h2 n2 f2 => ?_)
  refine xw_aloadR_n dd_R_init_13 rfl ?_
  refine xw_iconst 1 dd_R_init_14 (by decide) ?_
  refine xw_putA fl_R_17 fz_R_17 (by decide) dd_R_init_15 n2 rfl hB rfl rfl (fun h3 n3 f3 => ?_)
  exact xw_vret dd_R_init_18 rfl ⟨rfl, rfl, ⟨n3, (f3 sz (by omega)).trans ((f2 sz (by omega)).trans n1), by decide, by decide⟩, fun b b1 b2 => (f3 b b1).trans ((f2 b b1).trans (f1 b b2))⟩
theorem ct_R_nextSerial {a c hd : Nat} {f : Nat → Option Nat} (hR : rg_at h a c hd f) : xa_T G mm_R_nextSerial 0 0 0 [.ref a] h sz (xq_same h sz (some (.int (nI hd)))) := by
  refine xt_o ok_R_nextSerial rfl rfl ?_
  refine xw_aloadR_n dd_R_nextSerial_0 rfl ?_
  refine xw_get fl_R_17 dd_R_nextSerial_1 hR.1 rfl ?_
  exact xw_iret dd_R_nextSerial_4 rfl ⟨rfl, rfl, rfl⟩
theorem ct_R_leastKept {a c hd : Nat} {f : Nat → Option Nat} (hR : rg_at h a c hd f) : xa_T G mm_R_leastKept 0 0 0 [.ref a] h sz (xq_same h sz (some (.int (nI (rg_tl hd))))) := by
  obtain ⟨h1, h2, h3, h4⟩ := hR
  refine xt_o ok_R_leastKept rfl rfl ?_
  refine xw_aloadR_n dd_R_leastKept_0 rfl ?_
  refine xw_get fl_R_17 dd_R_leastKept_1 h1 rfl ?_
  refine xw_bipush 16 dd_R_leastKept_4 (by decide) ?_
  refine xw_icmp_le 19 dd_R_leastKept_6 (by decide) (fun hc => ?_) (fun hc => ?_)
  · refine xw_iconst 1 dd_R_leastKept_19 (by decide) ?_
    have hl : hd ≤ 16 := (nI_leI (a := hd) (b := 16) (by omega) (by decide)).mp hc
    exact xw_iret dd_R_leastKept_20 rfl ⟨by unfold rg_tl; rw [if_neg (by omega)]; rfl, rfl, rfl⟩
  · refine xw_aloadR_n dd_R_leastKept_9 rfl ?_
    refine xw_get fl_R_17 dd_R_leastKept_10 h1 rfl ?_
    refine xw_bipush 16 dd_R_leastKept_13 (by decide) ?_
    refine xw_isub dd_R_leastKept_15 ?_
    refine xw_goto 20 dd_R_leastKept_16 (by decide) ?_
    have hl : 16 < hd := by
      by_cases q : hd ≤ 16
      · exact absurd (nI_le (a := hd) (b := 16) q (by decide)) hc
      · omega
    have e1 : nI hd - 16 = nI (hd - 16) := pk_sub (a := hd) (b := 16) (by omega)
    exact xw_iret dd_R_leastKept_20 rfl ⟨by unfold rg_tl; rw [if_pos hl, e1], rfl, rfl⟩
theorem rg_and {k : Nat} (hk : k < 1000000) : nI k &&& 15 = nI (k % 16) := pk_andN (n := k) (by omega) (m := 15) 4 (by decide)
/-- the note of a serial: none where it isn't kept -/
theorem ct_R_noteAt {a c hd : Nat} {s : Int32} {f : Nat → Option Nat} (hR : rg_at h a c hd f) : xa_T G mm_R_noteAt 1 0 0 [.ref a, .int s] h sz (xq_same h sz (some (va_rf (if nI (rg_tl hd) ≤ s ∧ s < nI hd then f (s.toNatClampNeg % 16) else none)))) := by
  have hR0 := hR
  obtain ⟨h1, h2, h3, h4⟩ := hR
  have hno : ¬ (nI (rg_tl hd) ≤ s ∧ s < nI hd) → xa_W G mm_R_noteAt 1 0 0 16 [some (.ref a), some (.int s)] [] h sz (xq_same h sz (some (va_rf (if nI (rg_tl hd) ≤ s ∧ s < nI hd then f (s.toNatClampNeg % 16) else none)))) := by
    intro hn
    refine xw_null dd_R_noteAt_16 ?_
    exact xw_aretN dd_R_noteAt_17 rfl (Or.inl ⟨_, rfl⟩) ⟨by rw [if_neg hn]; rfl, rfl, rfl⟩
  refine xt_o ok_R_noteAt rfl rfl ?_
  refine xw_iload_n dd_R_noteAt_0 rfl ?_
  refine xw_aloadR_n dd_R_noteAt_1 rfl ?_
  refine xw_cl0 (ct_R_leastKept hR0) (iv_R_noteAt_2 h1) ok_R_leastKept rfl rfl rfl ?_ (fun _ _ _ q => by cases q.1)
  rintro v h' z1 ⟨hv, rfl, rfl⟩
  cases hv
  refine xw_icmp_lt 16 dd_R_noteAt_5 (by decide) (fun hc => hno (fun q => Int32.not_lt.mpr q.1 hc)) (fun hc => ?_)
  refine xw_iload_n dd_R_noteAt_8 rfl ?_
  refine xw_aloadR_n dd_R_noteAt_9 rfl ?_
  refine xw_get fl_R_17 dd_R_noteAt_10 h1 rfl ?_
  refine xw_icmp_lt 18 dd_R_noteAt_13 (by decide) (fun hc2 => ?_) (fun hc2 => hno (fun q => hc2 q.2))
  have htl : 1 ≤ rg_tl hd := by unfold rg_tl; split <;> omega
  have hok : nI (rg_tl hd) ≤ s ∧ s < nI hd := ⟨Int32.not_lt.mp hc, hc2⟩
  have htb : rg_tl hd ≤ hd := by unfold rg_tl; split <;> omega
  have hs0 : ¬ s < 0 := by
    have q1 := Int32.le_iff_toInt_le.mp hok.1
    rw [nI_toInt (by omega)] at q1
    rw [Int32.lt_iff_toInt_lt, Int32.toInt_zero]
    omega
  obtain ⟨j, hj, rfl⟩ := nI_of hs0
  have hjd : j < hd := (nI_ltI hj (by omega)).mp hc2
  refine xw_aloadR_n dd_R_noteAt_18 rfl ?_
  refine xw_get fl_R_11 dd_R_noteAt_19 h1 rfl ?_
  refine xw_iload_n dd_R_noteAt_22 rfl ?_
  refine xw_bipush 15 dd_R_noteAt_23 (by decide) ?_
  refine xw_iand dd_R_noteAt_25 ?_
  rw [rg_and (by omega)]
  refine xw_aald (t := 4) rfl dd_R_noteAt_26 h2 (vp_in_nI (by omega) (by decide)) ?_
  rw [nI_clamp (by omega)]
  exact xw_aret dd_R_noteAt_27 rfl (Or.inl ⟨_, rfl⟩) ⟨by rw [if_pos hok, nI_clamp hj], rfl, rfl⟩
theorem ct_R_append {a c hd e : Nat} {r : Int32} {f : Nat → Option Nat} (hR : rg_at h a c hd f) (hB : G.2.2.1 ≤ a) (hBc : G.2.2.1 ≤ c) (hm : hd < 900000) : xa_T G mm_R_append 2 1 2 [.ref a, .ref e, .int r] h sz (fun o h' z => o = .returned none ∧ z = sz + 1 ∧ rg_at h' a c (hd + 1) (va_up f (hd % 16) (some sz)) ∧ h' sz = some (nt_c e r) ∧ ∀ b, b ≠ a → b ≠ c → b ≠ sz → h' b = h b) := by
  obtain ⟨h1, h2, h3, h4⟩ := hR
  have hac : a ≠ c := fun q => by
    subst q
    rw [h1] at h2
    cases h2
  refine xt_o ok_R_append rfl rfl ?_
  refine xw_dom (fun hd0 hBz => ?_)
  have hla := hd0 _ _ h1
  have hlc := hd0 _ _ h2
  refine xw_aloadR_n dd_R_append_0 rfl ?_
  refine xw_get fl_R_11 dd_R_append_1 h1 rfl ?_
  refine xw_aloadR_n dd_R_append_4 rfl ?_
  refine xw_get fl_R_17 dd_R_append_5 h1 rfl ?_
  refine xw_bipush 15 dd_R_append_8 (by decide) ?_
  refine xw_iand dd_R_append_10 ?_
  rw [rg_and (by omega)]
  refine xw_less (kc' := 0 + 1) (ks' := 0 + 2) (by decide) (by decide) ?_
  refine xw_newA nw_R_9 dd_R_append_11 (fun h5 n5 f5 => ?_)
  refine xw_dup dd_R_append_14 rfl ?_
  refine xw_aloadR_n dd_R_append_15 rfl ?_
  refine xw_iload_n dd_R_append_16 rfl ?_
  refine xw_cl0 (ct_N_init n5 hBz) iv_R_append_17 ok_N_init rfl rfl rfl ?_ (fun _ _ _ q => by cases q.1)
  rintro v h6 z1 ⟨hv, rfl, n6, f6⟩
  cases hv
  refine xw_aastA (t := 4) rfl (ci := 3) ⟨_, rfl, Or.inl rfl⟩ dd_R_append_20 ((f6 c (by omega)).trans ((f5 c (by omega)).trans h2)) n6 (vp_in_nI (by omega) (by decide)) hBc (fun h7 n7 f7 => ?_)
  rw [nI_clamp (by omega)] at n7
  have h17 : h7 a = some (.inr (4, [.ref c, .int (nI hd)])) := (f7 a hac).trans ((f6 a (by omega)).trans ((f5 a (by omega)).trans h1))
  refine xw_aloadR_n dd_R_append_21 rfl ?_
  refine xw_dup dd_R_append_22 rfl ?_
  refine xw_get fl_R_17 dd_R_append_23 h17 rfl ?_
  refine xw_iconst 1 dd_R_append_26 (by decide) ?_
  refine xw_iadd dd_R_append_27 ?_
  rw [nI_1]
  refine xw_putA fl_R_17 fz_R_17 (by decide) dd_R_append_28 h17 rfl hB rfl rfl (fun h8 n8 f8 => ?_)
  exact xw_vret dd_R_append_31 rfl ⟨rfl, rfl, ⟨n8, (f8 c (fun q => hac q.symm)).trans n7, by omega, by omega⟩, (f8 sz (by omega)).trans ((f7 sz (by omega)).trans n6), fun b b1 b2 b3 => (f8 b b1).trans ((f7 b b2).trans ((f6 b b3).trans (f5 b b3)))⟩
end LF
end
section
/-! FileTable: files in a list, as a list of what they are like (by program: wip/whole/mk19.py) -/
theorem sf_step {α : Type} {p : α → Bool} {es : List α} {i : Nat} {e : α} (h : (es.take i).find? p = none) (he : es[i]? = some e) (hp : p e = false) : (es.take (i + 1)).find? p = none := by
  rw [List.take_add_one, he, List.find?_append, h]
  simp [hp]
theorem sf_hit {α : Type} {p : α → Bool} {es : List α} {i : Nat} {e : α} (h : (es.take i).find? p = none) (he : es[i]? = some e) (hp : p e = true) : es.find? p = some e := by
  have h1 : es = es.take i ++ e :: es.drop (i + 1) := by
    obtain ⟨hlt, hh⟩ := List.getElem?_eq_some_iff.mp he
    rw [← hh, List.getElem_cons_drop, List.take_append_drop]
  rw [h1, List.find?_append, h]
  simp [hp]
theorem sf_end {α : Type} {p : α → Bool} {es : List α} {i : Nat} (h : (es.take i).find? p = none) (hi : es.length ≤ i) : es.find? p = none := by
  rwa [List.take_of_length_le hi] at h
/-- entries at addresses -/
def en_l (h : xa_H) (xs : List Nat) (es : List sv_E) : Prop := xs.map h = es.map (fun e => some (en_c e))
theorem en_l.len {h : xa_H} {xs : List Nat} {es : List sv_E} (H : en_l h xs es) : xs.length = es.length := by
  have := congrArg List.length H
  simpa using this
theorem en_l.at {h : xa_H} {xs : List Nat} {es : List sv_E} (H : en_l h xs es) {i : Nat} (hi : i < es.length) : ∃ y e, xs[i]? = some y ∧ es[i]? = some e ∧ h y = some (en_c e) := by
  have hl := H.len
  have h1 := congrArg (fun l => l[i]?) H
  simp only [List.getElem?_map] at h1
  rw [List.getElem?_eq_getElem (by omega : i < xs.length), List.getElem?_eq_getElem hi] at h1
  exact ⟨xs[i]'(by omega), es[i], List.getElem?_eq_getElem (by omega), List.getElem?_eq_getElem hi, by simpa using h1⟩
theorem en_l.mem {h : xa_H} {xs : List Nat} {es : List sv_E} (H : en_l h xs es) {y : Nat} (hy : y ∈ xs) : ∃ e, e ∈ es ∧ h y = some (en_c e) := by
  have h1 : h y ∈ xs.map h := List.mem_map_of_mem hy
  rw [H] at h1
  obtain ⟨e, he, h2⟩ := List.mem_map.mp h1
  exact ⟨e, he, h2.symm⟩
theorem en_l.keep {h h1 : xa_H} {xs : List Nat} {es : List sv_E} (H : en_l h xs es) (hk : ∀ y e, h y = some (en_c e) → h1 y = h y) : en_l h1 xs es := by
  unfold en_l at H ⊢
  rw [← H]
  refine List.map_congr_left (fun y hy => ?_)
  obtain ⟨e, -, h2⟩ := en_l.mem H hy
  exact hk y e h2
theorem xo_1 : xa_A 1 "java/lang/Object" := ⟨_, rfl, Or.inr (by decide)⟩
theorem xo_5 : xa_A 5 "java/lang/Object" := ⟨_, rfl, Or.inr (by decide)⟩
theorem en_l.obj {h : xa_H} {xs : List Nat} {es : List sv_E} (H : en_l h xs es) : xo_in h xs := by
  intro y hy
  obtain ⟨e, -, h2⟩ := H.mem hy
  exact ⟨1, _, h2, xo_1⟩
/-- a table at t: its list at a, array at ea, entries at xs, like es -/
def ft_at (G : xa_G) (h : xa_H) (t a ea cap : Nat) (most : Int32) (xs : List Nat) (es : List sv_E) : Prop := h t = some (.inr (2, [.ref a, .int most])) ∧ al_x G h a ea cap xs ∧ en_l h xs es
/-- what is found: nothing, or an entry's cell -/
def ft_r (h : xa_H) (es : List sv_E) (p : sv_E → Bool) (r : Option Nat) : Prop := (es.find? p = none ∧ r = none) ∨ ∃ e y, es.find? p = some e ∧ r = some y ∧ h y = some (en_c e)
def xq_find (h : xa_H) (sz : Nat) (es : List sv_E) (p : sv_E → Bool) : Outcome → xa_H → Nat → Prop := fun o h' z => h' = h ∧ z = sz ∧ ∃ r, o = .returned (some (va_rf r)) ∧ ft_r h es p r
section FT
variable {G : xa_G} {h : xa_H} {sz : Nat}
theorem ct_F_init {a : Nat} {most : Int32} {f : Nat → Option Nat} (ha : h a = some (.inr (2, [.null, .int 0]))) (hB : G.2.2.1 ≤ a) (hu : h G.2.2.2.1 = some (xr_q 3 0 f)) : xa_T G mm_F_init 4 1 3 [.ref a, .int most] h sz (fun o h' z => o = .returned none ∧ z = sz + 1 ∧ ft_at G h' a sz G.2.2.2.1 0 most [] [] ∧ ∀ b, b ≠ a → b ≠ sz → h' b = h b) := by
  refine xt_o ok_F_init rfl rfl ?_
  refine xw_dom (fun hd hBz => ?_)
  have hla := hd _ _ ha
  have hlu := hd _ _ hu
  refine xw_aloadR_n dd_F_init_0 rfl ?_
  refine xw_objInit ol_F_1 wo_in wo_co (by decide) (by decide) dd_F_init_1 ?_
  refine xw_aloadR_n dd_F_init_4 rfl ?_
  refine xw_less (kc' := 0 + 1) (ks' := 0 + 3) (by decide) (by decide) ?_
  refine xw_newA nw_F_7 dd_F_init_5 (fun h1 n1 f1 => ?_)
  refine xw_dup dd_F_init_8 rfl ?_
  refine xw_cl0 (ct_A_init n1 hBz ((f1 _ (by omega)).trans hu)) iv_F_init_9 ok_A_init rfl rfl rfl ?_ (fun _ _ _ q => by cases q.1)
  rintro v h2 z1 ⟨hv, rfl, q1, q2⟩
  cases hv
  have hua : a ≠ G.2.2.2.1 := fun e => by
    rw [← e, ha] at hu
    cases hu
  refine xw_putA fl_F_10 fz_F_10 (by decide) dd_F_init_12 ((q2 a (by omega)).trans ((f1 a (by omega)).trans ha)) rfl hB rfl rfl (fun h3 n3 f3 => ?_)
  refine xw_aloadR_n dd_F_init_15 rfl ?_
  refine xw_iload_n dd_F_init_16 rfl ?_
  refine xw_putA fl_F_16 fz_F_16 (by decide) dd_F_init_17 n3 rfl hB rfl rfl (fun h4 n4 f4 => ?_)
  obtain ⟨k1, k2, g, ⟨⟨mc, k3⟩, k4, k5, k6⟩, k7⟩ := q1
  refine xw_vret dd_F_init_20 rfl ⟨rfl, rfl, ⟨n4, ⟨k1, k2, g, ⟨⟨mc, (f4 sz (by omega)).trans ((f3 sz (by omega)).trans k3)⟩, (f4 _ (fun e => hua e.symm)).trans ((f3 _ (fun e => hua e.symm)).trans k4), k5, k6⟩, k7⟩, rfl⟩, fun b b1 b2 => ?_⟩
  exact (f4 b b1).trans ((f3 b b1).trans ((q2 b b2).trans (f1 b b2)))
theorem ct_F_count {t a ea cap : Nat} {most : Int32} {xs : List Nat} {es : List sv_E} (H : ft_at G h t a ea cap most xs es) : xa_T G mm_F_count 1 0 0 [.ref t] h sz (xq_same h sz (some (.int (nI es.length)))) := by
  obtain ⟨hT, hA, hE⟩ := H
  obtain ⟨fs, hAc⟩ := hA.cell
  refine xt_o ok_F_count rfl rfl ?_
  refine xw_aloadR_n dd_F_count_0 rfl ?_
  refine xw_get fl_F_10 dd_F_count_1 hT rfl ?_
  refine xw_cl0 (ct_A_size' hA) (iv_F_count_4 hAc) ok_A_size rfl rfl rfl ?_ (fun _ _ _ q => by cases q.1)
  rintro v h sz ⟨hv, rfl, rfl⟩
  cases hv
  exact xw_iret dd_F_count_7 rfl ⟨by rw [hE.len], rfl, rfl⟩
theorem ct_F_entryOf {t a ea cap : Nat} {most : Int32} {xs : List Nat} {es : List sv_E} {n : Int32} (H : ft_at G h t a ea cap most xs es) : xa_T G mm_F_entryOf 3 0 0 [.ref t, .int n] h sz (xq_find h sz es (fun e => decide (e.1 = n))) := by
  obtain ⟨hT, hA, hE⟩ := H
  obtain ⟨fs, hAc⟩ := hA.cell
  have hlen := hE.len
  have hcl := hA.len
  have loop : ∀ (k i : Nat) (o : Option Value), i + k = es.length → (es.take i).find? (fun e => decide (e.1 = n)) = none → xa_W G mm_F_entryOf 3 0 0 2 [some (.ref t), some (.int n), some (.int (nI i)), o] [] h sz (xq_find h sz es (fun e => decide (e.1 = n))) := by
    intro k
    induction k with
    | zero =>
      intro i o hk hn
      refine xw_iload_n dd_F_entryOf_2 rfl ?_
      refine xw_aloadR_n dd_F_entryOf_3 rfl ?_
      refine xw_get fl_F_10 dd_F_entryOf_4 hT rfl ?_
      refine xw_cl0 (ct_A_size' hA) (iv_F_entryOf_7 hAc) ok_A_size rfl rfl rfl ?_ (fun _ _ _ q => by cases q.1)
      rintro v h sz ⟨hv, rfl, rfl⟩
      cases hv
      refine xw_icmp_ge 41 dd_F_entryOf_10 (by decide) (fun hc => ?_) (fun hc => absurd (nI_le (by omega) (by omega)) hc)
      refine xw_null dd_F_entryOf_41 ?_
      exact xw_aretN dd_F_entryOf_42 rfl (Or.inl ⟨_, rfl⟩) ⟨rfl, rfl, none, rfl, Or.inl ⟨sf_end hn (by omega), rfl⟩⟩
    | succ k ih =>
      intro i o hk hn
      obtain ⟨y, e, hx, hes, he⟩ := hE.at (i := i) (by omega)
      refine xw_iload_n dd_F_entryOf_2 rfl ?_
      refine xw_aloadR_n dd_F_entryOf_3 rfl ?_
      refine xw_get fl_F_10 dd_F_entryOf_4 hT rfl ?_
      refine xw_cl0 (ct_A_size' hA) (iv_F_entryOf_7 hAc) ok_A_size rfl rfl rfl ?_ (fun _ _ _ q => by cases q.1)
      rintro v h sz ⟨hv, rfl, rfl⟩
      cases hv
      refine xw_icmp_ge 41 dd_F_entryOf_10 (by decide) (fun hc => absurd hc (nI_ge (by omega) (by omega))) (fun hc => ?_)
      refine xw_aloadR_n dd_F_entryOf_13 rfl ?_
      refine xw_get fl_F_10 dd_F_entryOf_14 hT rfl ?_
      refine xw_iload_n dd_F_entryOf_17 rfl ?_
      refine xw_cl0 (ct_A_get' hA hx) (iv_F_entryOf_18 hAc) ok_A_get rfl rfl rfl ?_ (fun _ _ _ q => by cases q.1)
      rintro v h sz ⟨hv, rfl, rfl⟩
      cases hv
      refine xw_cast cc_F_28 ⟨_, _, rfl⟩ dd_F_entryOf_21 he ?_
      refine xw_astoreR_n dd_F_entryOf_24 (by decide) ?_
      refine xw_aloadR_n dd_F_entryOf_25 rfl ?_
      refine xw_get fl_F_30 dd_F_entryOf_26 he rfl ?_
      refine xw_iload_n dd_F_entryOf_29 rfl ?_
      refine xw_icmp_ne 35 dd_F_entryOf_30 (by decide) (fun hc => ?_) (fun hc => ?_)
      · refine xw_iinc dd_F_entryOf_35 rfl (nI_1 i) (by decide) ?_
        refine xw_goto 2 dd_F_entryOf_38 (by decide) ?_
        exact ih (i + 1) _ (by omega) (sf_step hn hes (by simpa using hc))
      · refine xw_aloadR_n dd_F_entryOf_33 rfl ?_
        exact xw_aretR dd_F_entryOf_34 rfl (Or.inl ⟨_, rfl⟩) ⟨rfl, rfl, some y, rfl, Or.inr ⟨e, y, sf_hit hn hes (by simpa using hc), rfl, he⟩⟩
  refine xt_o ok_F_entryOf rfl rfl ?_
  refine xw_iconst 0 dd_F_entryOf_0 (by decide) ?_
  refine xw_istore_n dd_F_entryOf_1 (by decide) ?_
  exact loop es.length 0 _ (by omega) rfl
theorem ct_F_entryAbove {t a ea cap : Nat} {most : Int32} {xs : List Nat} {es : List sv_E} {n : Int32} (H : ft_at G h t a ea cap most xs es) : xa_T G mm_F_entryAbove 3 0 0 [.ref t, .int n] h sz (xq_find h sz es (fun e => decide (n < e.1))) := by
  obtain ⟨hT, hA, hE⟩ := H
  obtain ⟨fs, hAc⟩ := hA.cell
  have hlen := hE.len
  have hcl := hA.len
  have loop : ∀ (k i : Nat) (o : Option Value), i + k = es.length → (es.take i).find? (fun e => decide (n < e.1)) = none → xa_W G mm_F_entryAbove 3 0 0 2 [some (.ref t), some (.int n), some (.int (nI i)), o] [] h sz (xq_find h sz es (fun e => decide (n < e.1))) := by
    intro k
    induction k with
    | zero =>
      intro i o hk hn
      refine xw_iload_n dd_F_entryAbove_2 rfl ?_
      refine xw_aloadR_n dd_F_entryAbove_3 rfl ?_
      refine xw_get fl_F_10 dd_F_entryAbove_4 hT rfl ?_
      refine xw_cl0 (ct_A_size' hA) (iv_F_entryAbove_7 hAc) ok_A_size rfl rfl rfl ?_ (fun _ _ _ q => by cases q.1)
      rintro v h sz ⟨hv, rfl, rfl⟩
      cases hv
      refine xw_icmp_ge 41 dd_F_entryAbove_10 (by decide) (fun hc => ?_) (fun hc => absurd (nI_le (by omega) (by omega)) hc)
      refine xw_null dd_F_entryAbove_41 ?_
      exact xw_aretN dd_F_entryAbove_42 rfl (Or.inl ⟨_, rfl⟩) ⟨rfl, rfl, none, rfl, Or.inl ⟨sf_end hn (by omega), rfl⟩⟩
    | succ k ih =>
      intro i o hk hn
      obtain ⟨y, e, hx, hes, he⟩ := hE.at (i := i) (by omega)
      refine xw_iload_n dd_F_entryAbove_2 rfl ?_
      refine xw_aloadR_n dd_F_entryAbove_3 rfl ?_
      refine xw_get fl_F_10 dd_F_entryAbove_4 hT rfl ?_
      refine xw_cl0 (ct_A_size' hA) (iv_F_entryAbove_7 hAc) ok_A_size rfl rfl rfl ?_ (fun _ _ _ q => by cases q.1)
      rintro v h sz ⟨hv, rfl, rfl⟩
      cases hv
      refine xw_icmp_ge 41 dd_F_entryAbove_10 (by decide) (fun hc => absurd hc (nI_ge (by omega) (by omega))) (fun hc => ?_)
      refine xw_aloadR_n dd_F_entryAbove_13 rfl ?_
      refine xw_get fl_F_10 dd_F_entryAbove_14 hT rfl ?_
      refine xw_iload_n dd_F_entryAbove_17 rfl ?_
      refine xw_cl0 (ct_A_get' hA hx) (iv_F_entryAbove_18 hAc) ok_A_get rfl rfl rfl ?_ (fun _ _ _ q => by cases q.1)
      rintro v h sz ⟨hv, rfl, rfl⟩
      cases hv
      refine xw_cast cc_F_28 ⟨_, _, rfl⟩ dd_F_entryAbove_21 he ?_
      refine xw_astoreR_n dd_F_entryAbove_24 (by decide) ?_
      refine xw_aloadR_n dd_F_entryAbove_25 rfl ?_
      refine xw_get fl_F_30 dd_F_entryAbove_26 he rfl ?_
      refine xw_iload_n dd_F_entryAbove_29 rfl ?_
      refine xw_icmp_le 35 dd_F_entryAbove_30 (by decide) (fun hc => ?_) (fun hc => ?_)
      · refine xw_iinc dd_F_entryAbove_35 rfl (nI_1 i) (by decide) ?_
        refine xw_goto 2 dd_F_entryAbove_38 (by decide) ?_
        exact ih (i + 1) _ (by omega) (sf_step hn hes (decide_eq_false (Int32.not_lt.mpr hc)))
      · refine xw_aloadR_n dd_F_entryAbove_33 rfl ?_
        exact xw_aretR dd_F_entryAbove_34 rfl (Or.inl ⟨_, rfl⟩) ⟨rfl, rfl, some y, rfl, Or.inr ⟨e, y, sf_hit hn hes (decide_eq_true (Int32.not_le.mp hc)), rfl, he⟩⟩
  refine xt_o ok_F_entryAbove rfl rfl ?_
  refine xw_iconst 0 dd_F_entryAbove_0 (by decide) ?_
  refine xw_istore_n dd_F_entryAbove_1 (by decide) ?_
  exact loop es.length 0 _ (by omega) rfl
theorem ct_F_entryNamed {t a ea cap : Nat} {most : Int32} {xs : List Nat} {es : List sv_E} {p n : Int32} (H : ft_at G h t a ea cap most xs es) : xa_T G mm_F_entryNamed 3 0 0 [.ref t, .int p, .int n] h sz (xq_find h sz es (fun e => decide (e.2.2.1 = p ∧ e.2.2.2.1 = n))) := by
  obtain ⟨hT, hA, hE⟩ := H
  obtain ⟨fs, hAc⟩ := hA.cell
  have hlen := hE.len
  have hcl := hA.len
  have loop : ∀ (k i : Nat) (o : Option Value), i + k = es.length → (es.take i).find? (fun e => decide (e.2.2.1 = p ∧ e.2.2.2.1 = n)) = none → xa_W G mm_F_entryNamed 3 0 0 2 [some (.ref t), some (.int p), some (.int n), some (.int (nI i)), o] [] h sz (xq_find h sz es (fun e => decide (e.2.2.1 = p ∧ e.2.2.2.1 = n))) := by
    intro k
    induction k with
    | zero =>
      intro i o hk hn
      refine xw_iload_n dd_F_entryNamed_2 rfl ?_
      refine xw_aloadR_n dd_F_entryNamed_3 rfl ?_
      refine xw_get fl_F_10 dd_F_entryNamed_4 hT rfl ?_
      refine xw_cl0 (ct_A_size' hA) (iv_F_entryNamed_7 hAc) ok_A_size rfl rfl rfl ?_ (fun _ _ _ q => by cases q.1)
      rintro v h sz ⟨hv, rfl, rfl⟩
      cases hv
      refine xw_icmp_ge 53 dd_F_entryNamed_10 (by decide) (fun hc => ?_) (fun hc => absurd (nI_le (by omega) (by omega)) hc)
      refine xw_null dd_F_entryNamed_53 ?_
      exact xw_aretN dd_F_entryNamed_54 rfl (Or.inl ⟨_, rfl⟩) ⟨rfl, rfl, none, rfl, Or.inl ⟨sf_end hn (by omega), rfl⟩⟩
    | succ k ih =>
      intro i o hk hn
      obtain ⟨y, e, hx, hes, he⟩ := hE.at (i := i) (by omega)
      refine xw_iload_n dd_F_entryNamed_2 rfl ?_
      refine xw_aloadR_n dd_F_entryNamed_3 rfl ?_
      refine xw_get fl_F_10 dd_F_entryNamed_4 hT rfl ?_
      refine xw_cl0 (ct_A_size' hA) (iv_F_entryNamed_7 hAc) ok_A_size rfl rfl rfl ?_ (fun _ _ _ q => by cases q.1)
      rintro v h sz ⟨hv, rfl, rfl⟩
      cases hv
      refine xw_icmp_ge 53 dd_F_entryNamed_10 (by decide) (fun hc => absurd hc (nI_ge (by omega) (by omega))) (fun hc => ?_)
      refine xw_aloadR_n dd_F_entryNamed_13 rfl ?_
      refine xw_get fl_F_10 dd_F_entryNamed_14 hT rfl ?_
      refine xw_iload_n dd_F_entryNamed_17 rfl ?_
      refine xw_cl0 (ct_A_get' hA hx) (iv_F_entryNamed_18 hAc) ok_A_get rfl rfl rfl ?_ (fun _ _ _ q => by cases q.1)
      rintro v h sz ⟨hv, rfl, rfl⟩
      cases hv
      refine xw_cast cc_F_28 ⟨_, _, rfl⟩ dd_F_entryNamed_21 he ?_
      refine xw_astoreR dd_F_entryNamed_24 (by decide) ?_
      refine xw_aloadR dd_F_entryNamed_26 rfl ?_
      refine xw_get fl_F_33 dd_F_entryNamed_28 he rfl ?_
      refine xw_iload_n dd_F_entryNamed_31 rfl ?_
      refine xw_icmp_ne 47 dd_F_entryNamed_32 (by decide) (fun hc => ?_) (fun hc => ?_)
      · refine xw_iinc dd_F_entryNamed_47 rfl (nI_1 i) (by decide) ?_
        refine xw_goto 2 dd_F_entryNamed_50 (by decide) ?_
        exact ih (i + 1) _ (by omega) (sf_step hn hes (decide_eq_false (fun q => hc q.1)))
      · refine xw_aloadR dd_F_entryNamed_35 rfl ?_
        refine xw_get fl_F_36 dd_F_entryNamed_37 he rfl ?_
        refine xw_iload_n dd_F_entryNamed_40 rfl ?_
        refine xw_icmp_ne 47 dd_F_entryNamed_41 (by decide) (fun hc2 => ?_) (fun hc2 => ?_)
        · refine xw_iinc dd_F_entryNamed_47 rfl (nI_1 i) (by decide) ?_
          refine xw_goto 2 dd_F_entryNamed_50 (by decide) ?_
          exact ih (i + 1) _ (by omega) (sf_step hn hes (decide_eq_false (fun q => hc2 q.2)))
        · refine xw_aloadR dd_F_entryNamed_44 rfl ?_
          exact xw_aretR dd_F_entryNamed_46 rfl (Or.inl ⟨_, rfl⟩) ⟨rfl, rfl, some y, rfl, Or.inr ⟨e, y, sf_hit hn hes (decide_eq_true ⟨hc, hc2⟩), rfl, he⟩⟩
  refine xt_o ok_F_entryNamed rfl rfl ?_
  refine xw_iconst 0 dd_F_entryNamed_0 (by decide) ?_
  refine xw_istore_n dd_F_entryNamed_1 (by decide) ?_
  exact loop es.length 0 _ (by omega) rfl
theorem ct_F_hasFilesIn {t a ea cap : Nat} {most : Int32} {xs : List Nat} {es : List sv_E} {p : Int32} (H : ft_at G h t a ea cap most xs es) : xa_T G mm_F_hasFilesIn 3 0 0 [.ref t, .int p] h sz (xq_same h sz (some (.int (if (es.find? (fun e => decide (e.2.2.1 = p))).isSome then 1 else 0)))) := by
  obtain ⟨hT, hA, hE⟩ := H
  obtain ⟨fs, hAc⟩ := hA.cell
  have hlen := hE.len
  have hcl := hA.len
  have loop : ∀ (k i : Nat), i + k = es.length → (es.take i).find? (fun e => decide (e.2.2.1 = p)) = none → xa_W G mm_F_hasFilesIn 3 0 0 2 [some (.ref t), some (.int p), some (.int (nI i))] [] h sz (xq_same h sz (some (.int (if (es.find? (fun e => decide (e.2.2.1 = p))).isSome then 1 else 0)))) := by
    intro k
    induction k with
    | zero =>
      intro i hk hn
      refine xw_iload_n dd_F_hasFilesIn_2 rfl ?_
      refine xw_aloadR_n dd_F_hasFilesIn_3 rfl ?_
      refine xw_get fl_F_10 dd_F_hasFilesIn_4 hT rfl ?_
      refine xw_cl0 (ct_A_size' hA) (iv_F_hasFilesIn_7 hAc) ok_A_size rfl rfl rfl ?_ (fun _ _ _ q => by cases q.1)
      rintro v h sz ⟨hv, rfl, rfl⟩
      cases hv
      refine xw_icmp_ge 39 dd_F_hasFilesIn_10 (by decide) (fun hc => ?_) (fun hc => absurd (nI_le (by omega) (by omega)) hc)
      refine xw_iconst 0 dd_F_hasFilesIn_39 (by decide) ?_
      exact xw_zret dd_F_hasFilesIn_40 rfl rfl ⟨by rw [sf_end hn (by omega)]; rfl, rfl, rfl⟩
    | succ k ih =>
      intro i hk hn
      obtain ⟨y, e, hx, hes, he⟩ := hE.at (i := i) (by omega)
      refine xw_iload_n dd_F_hasFilesIn_2 rfl ?_
      refine xw_aloadR_n dd_F_hasFilesIn_3 rfl ?_
      refine xw_get fl_F_10 dd_F_hasFilesIn_4 hT rfl ?_
      refine xw_cl0 (ct_A_size' hA) (iv_F_hasFilesIn_7 hAc) ok_A_size rfl rfl rfl ?_ (fun _ _ _ q => by cases q.1)
      rintro v h sz ⟨hv, rfl, rfl⟩
      cases hv
      refine xw_icmp_ge 39 dd_F_hasFilesIn_10 (by decide) (fun hc => absurd hc (nI_ge (by omega) (by omega))) (fun hc => ?_)
      refine xw_aloadR_n dd_F_hasFilesIn_13 rfl ?_
      refine xw_get fl_F_10 dd_F_hasFilesIn_14 hT rfl ?_
      refine xw_iload_n dd_F_hasFilesIn_17 rfl ?_
      refine xw_cl0 (ct_A_get' hA hx) (iv_F_hasFilesIn_18 hAc) ok_A_get rfl rfl rfl ?_ (fun _ _ _ q => by cases q.1)
      rintro v h sz ⟨hv, rfl, rfl⟩
      cases hv
      refine xw_cast cc_F_28 ⟨_, _, rfl⟩ dd_F_hasFilesIn_21 he ?_
      refine xw_get fl_F_33 dd_F_hasFilesIn_24 he rfl ?_
      refine xw_iload_n dd_F_hasFilesIn_27 rfl ?_
      refine xw_icmp_ne 33 dd_F_hasFilesIn_28 (by decide) (fun hc => ?_) (fun hc => ?_)
      · refine xw_iinc dd_F_hasFilesIn_33 rfl (nI_1 i) (by decide) ?_
        refine xw_goto 2 dd_F_hasFilesIn_36 (by decide) ?_
        exact ih (i + 1) (by omega) (sf_step hn hes (decide_eq_false hc))
      · refine xw_iconst 1 dd_F_hasFilesIn_31 (by decide) ?_
        exact xw_zret dd_F_hasFilesIn_32 rfl rfl ⟨by rw [sf_hit hn hes (decide_eq_true hc)]; rfl, rfl, rfl⟩
  refine xt_o ok_F_hasFilesIn rfl rfl ?_
  refine xw_iconst 0 dd_F_hasFilesIn_0 (by decide) ?_
  refine xw_istore_n dd_F_hasFilesIn_1 (by decide) ?_
  exact loop es.length 0 (by omega) rfl
end FT
end
section
/-! FileTable: what is written (by program: wip/whole/mk20.py) -/
theorem sf_erase {α : Type} {p : α → Bool} : ∀ {es : List α} {i : Nat} {e : α}, (es.take i).find? p = none → es[i]? = some e → p e = true → es.eraseIdx i = es.eraseP p
  | [], i, e, _, he, _ => by simp at he
  | a :: es, 0, e, _, he, hp => by
    simp at he
    subst he
    simp [hp]
  | a :: es, i + 1, e, hn, he, hp => by
    simp at he
    rw [List.take_succ_cons, List.find?_cons] at hn
    have ha : p a = false := by
      cases hpa : p a with
      | true => rw [hpa] at hn; cases hn
      | false => rfl
    rw [ha] at hn
    rw [List.eraseIdx_cons_succ, List.eraseP_cons, ha, sf_erase hn he hp]
    rfl
theorem sf_none {α : Type} {p : α → Bool} : ∀ {es : List α}, es.find? p = none → es.eraseP p = es
  | [], _ => rfl
  | a :: es, hn => by
    rw [List.find?_cons] at hn
    have ha : p a = false := by
      cases hpa : p a with
      | true => rw [hpa] at hn; cases hn
      | false => rfl
    rw [ha] at hn
    rw [List.eraseP_cons, ha, sf_none hn]
    rfl
theorem en_l.set {h : xa_H} {xs : List Nat} {es : List sv_E} {i y : Nat} {e : sv_E} (H : en_l h xs es) (hy : h y = some (en_c e)) : en_l h (xs.set i y) (es.set i e) := by
  unfold en_l at H ⊢
  rw [List.map_set, List.map_set, H, hy]
theorem en_l.ins {h : xa_H} {y : Nat} {e : sv_E} (hy : h y = some (en_c e)) : ∀ {xs : List Nat} {es : List sv_E} {i : Nat}, en_l h xs es → en_l h (xs.insertIdx i y) (es.insertIdx i e)
  | [], [], 0, _ => by
    show [h y] = [some (en_c e)]
    rw [hy]
  | [], [], i + 1, H => by simpa using H
  | x1 :: xs, e1 :: es, 0, H => by
    unfold en_l at H ⊢
    simp only [List.insertIdx_zero, List.map_cons] at H ⊢
    rw [hy, H]
  | x1 :: xs, e1 :: es, i + 1, H => by
    unfold en_l at H
    simp only [List.map_cons, List.cons.injEq] at H
    have := en_l.ins hy (i := i) (show en_l h xs es from H.2)
    unfold en_l at this ⊢
    simp only [List.insertIdx_succ_cons, List.map_cons]
    rw [H.1, this]
  | [], e1 :: es, i, H => by
    have := en_l.len H
    simp at this
  | x1 :: xs, [], i, H => by
    have := en_l.len H
    simp at this
theorem en_l.del {h : xa_H} : ∀ {xs : List Nat} {es : List sv_E} {i : Nat}, en_l h xs es → en_l h (xs.eraseIdx i) (es.eraseIdx i)
  | [], [], i, H => by simpa using H
  | x1 :: xs, e1 :: es, 0, H => by
    unfold en_l at H ⊢
    simp only [List.map_cons, List.cons.injEq] at H
    exact H.2
  | x1 :: xs, e1 :: es, i + 1, H => by
    unfold en_l at H
    simp only [List.map_cons, List.cons.injEq] at H
    have := en_l.del (i := i) (show en_l h xs es from H.2)
    unfold en_l at this ⊢
    simp only [List.eraseIdx_cons_succ, List.map_cons]
    rw [H.1, this]
  | [], e1 :: es, i, H => by
    have := en_l.len H
    simp at this
  | x1 :: xs, [], i, H => by
    have := en_l.len H
    simp at this
/-- where a number stands, or would -/
def sv_pos (es : List sv_E) (n : Int32) : Nat := (es.takeWhile (fun e => decide (e.1 < n))).length
/-- a file comes in at the place of its number, over what it was like there before -/
def sv_put (es : List sv_E) (most : Nat) (e : sv_E) : List sv_E := if (es[sv_pos es e.1]?).any (fun e' => decide (e'.1 = e.1)) = true then es.set (sv_pos es e.1) e else if es.length < most then es.insertIdx (sv_pos es e.1) e else es
/-- does the array of a table of that capacity grow by it? -/
def sv_gro (es : List sv_E) (most cap : Nat) (e : sv_E) : Bool := !((es[sv_pos es e.1]?).any (fun e' => decide (e'.1 = e.1))) && (decide (es.length < most) && decide (es.length = cap))
/-- a table's list has changed; its array has been replaced where g says so -/
def xq_fp (G : xa_G) (h : xa_H) (sz t a ea cap : Nat) (most : Int32) (es' : List sv_E) (g : Bool) : Outcome → xa_H → Nat → Prop := fun o h' z => o = .returned none ∧ (∃ xs', ft_at G h' t a (if g = true then sz else ea) (if g = true then al_cap cap else cap) most xs' es') ∧ z = (if g = true then sz + 1 else sz) ∧ (∀ b, b ≠ a → (b ≠ ea ∨ cap = 0) → b ≠ sz → h' b = h b) ∧ (g = false → h' sz = h sz)
theorem sf_pos : ∀ {es : List sv_E} {n : Int32} {i : Nat}, (∀ j, j < i → ∀ e, es[j]? = some e → e.1 < n) → (∀ e, es[i]? = some e → ¬ e.1 < n) → i ≤ es.length → sv_pos es n = i
  | [], n, i, _, _, hi => by
    simp at hi
    subst hi
    rfl
  | a :: es, n, 0, _, h2, _ => by
    have ha : ¬ a.1 < n := h2 a rfl
    unfold sv_pos
    rw [List.takeWhile_cons]
    simp [ha]
  | a :: es, n, i + 1, h1, h2, hi => by
    have ha : a.1 < n := h1 0 (by omega) a rfl
    have := sf_pos (es := es) (n := n) (i := i) (fun j hj e he => h1 (j + 1) (by omega) e (by simpa using he)) (fun e he => h2 e (by simpa using he)) (by simpa using hi)
    unfold sv_pos at this ⊢
    rw [List.takeWhile_cons]
    simp [ha, this]
/-- a table's list has changed, the array kept -/
def xq_fu (G : xa_G) (h : xa_H) (sz t a ea cap : Nat) (most : Int32) (es' : List sv_E) : Outcome → xa_H → Nat → Prop := fun o h' z => o = .returned none ∧ z = sz ∧ (∃ xs', ft_at G h' t a ea cap most xs' es') ∧ ∀ b, b ≠ a → (b ≠ ea ∨ cap = 0) → h' b = h b
theorem ft_ne {G : xa_G} {h : xa_H} {t a ea cap : Nat} {most : Int32} {xs : List Nat} {es : List sv_E} (H : ft_at G h t a ea cap most xs es) : t ≠ a ∧ t ≠ ea ∧ a ≠ ea ∧ (∀ y e, h y = some (en_c e) → y ≠ a ∧ y ≠ ea ∧ y ≠ t) := by
  obtain ⟨hT, hA, hE⟩ := H
  have hne := hA.ne
  obtain ⟨-, -, f, ⟨⟨mc, h1⟩, h2, -⟩, -⟩ := hA
  refine ⟨fun e => ?_, fun e => ?_, hne, fun y e hy => ⟨fun q => ?_, fun q => ?_, fun q => ?_⟩⟩
  · subst e; rw [hT] at h1; cases h1
  · subst e; rw [hT] at h2; cases h2
  · subst q; rw [hy] at h1; cases h1
  · subst q; rw [hy] at h2; cases h2
  · subst q; rw [hy] at hT; cases hT
section FW
variable {G : xa_G} {h : xa_H} {sz : Nat}
theorem ct_F_put {t a ea cap mst x1 : Nat} {xs : List Nat} {es : List sv_E} {e : sv_E} (H : ft_at G h t a ea cap (nI mst) xs es) (hx1 : h x1 = some (en_c e)) (hm : mst < 100000) (hc : cap < 400000) : xa_T G mm_F_put 7 1 (if sv_gro es mst cap e = true then al_cap cap else 0) [.ref t, .ref x1] h sz (xq_fp G h sz t a ea cap (nI mst) (sv_put es mst e) (sv_gro es mst cap e)) := by
  have H0 := H
  obtain ⟨k1, k2, k3, k4⟩ := ft_ne H
  obtain ⟨hT, hA, hE⟩ := H
  obtain ⟨fs, hAc⟩ := hA.cell
  have hlen := hE.len
  have hcl := hA.len
  have tail : ∀ i, i ≤ es.length → (∀ j, j < i → ∀ e', es[j]? = some e' → e'.1 < e.1) → (∀ e', es[i]? = some e' → ¬ e'.1 < e.1) → xa_W G mm_F_put 7 1 (if sv_gro es mst cap e = true then al_cap cap else 0) 40 [some (.ref t), some (.ref x1), some (.int (nI i))] [] h sz (xq_fp G h sz t a ea cap (nI mst) (sv_put es mst e) (sv_gro es mst cap e)) := by
    intro i hi q1 q2
    have hp := sf_pos q1 q2 hi
    refine xw_dom (fun hd hBz => ?_)
    have hlt := hd _ _ hT
    have hin : ¬ (∃ e', es[i]? = some e' ∧ e'.1 = e.1) → xa_W G mm_F_put 7 1 (if sv_gro es mst cap e = true then al_cap cap else 0) 85 [some (.ref t), some (.ref x1), some (.int (nI i))] [] h sz (xq_fp G h sz t a ea cap (nI mst) (sv_put es mst e) (sv_gro es mst cap e)) := by
      intro hno
      have hsel : ¬ (es[sv_pos es e.1]?).any (fun e' => decide (e'.1 = e.1)) = true := by
        rw [hp]
        intro q
        cases hh : es[i]? with
        | none => rw [hh] at q; cases q
        | some e' =>
          rw [hh] at q
          exact hno ⟨e', hh, by simpa using q⟩
      refine xw_aloadR_n dd_F_put_85 rfl ?_
      refine xw_get fl_F_10 dd_F_put_86 hT rfl ?_
      refine xw_cl0 (ct_A_size' hA) (iv_F_put_89 hAc) ok_A_size rfl rfl rfl ?_ (fun _ _ _ q => by cases q.1)
      rintro v h sz ⟨hv, rfl, rfl⟩
      cases hv
      refine xw_aloadR_n dd_F_put_92 rfl ?_
      refine xw_get fl_F_16 dd_F_put_93 hT rfl ?_
      refine xw_icmp_ge 108 dd_F_put_96 (by decide) (fun hc0 => ?_) (fun hc0 => ?_)
      · have hge : ¬ es.length < mst := by
          have := (nI_leI (a := mst) (b := xs.length) (by omega) (by omega)).mp hc0
          omega
        have hg : sv_gro es mst cap e = false := by
          unfold sv_gro
          rw [decide_eq_false hge]
          simp
        refine xw_vret dd_F_put_108 rfl ⟨rfl, ⟨xs, ?_⟩, ?_, fun _ _ _ _ => rfl, fun _ => rfl⟩
        · unfold sv_put
          rw [if_neg hsel, if_neg hge, hg]
          exact H0
        · rw [hg]; rfl
      · have hlt2 : es.length < mst := by
          by_cases q : mst ≤ xs.length
          · exact absurd (nI_le q (by omega)) hc0
          · omega
        refine xw_aloadR_n dd_F_put_99 rfl ?_
        refine xw_get fl_F_10 dd_F_put_100 hT rfl ?_
        refine xw_iload_n dd_F_put_103 rfl ?_
        refine xw_aloadR_n dd_F_put_104 rfl ?_
        have hpay : al_pay xs.length cap ≤ (if sv_gro es mst cap e = true then al_cap cap else 0) := by
          unfold al_pay sv_gro
          by_cases q : xs.length = cap
          · rw [if_pos q, if_pos (by
              rw [Bool.not_eq_true] at hsel
              rw [hsel, decide_eq_true hlt2, decide_eq_true (by omega : es.length = cap)]
              rfl)]
            exact Nat.le_refl _
          · rw [if_neg q]
            exact Nat.zero_le _
        refine xw_less (kc' := 0 + 1) (ks' := 0 + al_pay xs.length cap) (by omega) (by omega) ?_
        refine xw_cl (ct_A_add0 (i := i) hA (by omega) hE.obj hc hx1 xo_1) (iv_F_put_105 hAc) ok_A_add0 rfl rfl rfl ?_ (fun _ _ _ q => by cases q.1)
        rintro v h' z1 ⟨hv, ea', cap', g1, g2, g3⟩
        cases hv
        have hke : ∀ y e', h y = some (en_c e') → h' y = h y := fun y e' hy => by
          have hly := hd _ _ hy
          exact g2 y (k4 y e' hy).1 (k4 y e' hy).2.1 (by omega)
        have hE' : en_l h' (xs.insertIdx i x1) (sv_put es mst e) := by
          unfold sv_put
          rw [if_neg hsel, if_pos hlt2, hp]
          exact en_l.ins ((hke x1 e hx1).trans hx1) (hE.keep hke)
        have hT' := (g2 t k1 k2 (by omega)).trans hT
        have hgl := g1.len
        rw [List.length_insertIdx, if_pos (by omega)] at hgl
        rcases g3 with ⟨r1, r2, r3, r4⟩ | ⟨r1, r2, r3, r4, r5⟩
        · subst r1 r2 r3
          have hg : sv_gro es mst cap' e = false := by
            unfold sv_gro
            rw [decide_eq_false (by omega : ¬ es.length = cap')]
            simp
          refine xw_vret dd_F_put_108 rfl ⟨rfl, ⟨xs.insertIdx i x1, ?_⟩, ?_, fun b b1 b2 b3 => g2 b b1 (b2.resolve_right (by omega)) b3, fun _ => r4⟩
          · rw [hg]
            exact ⟨hT', g1, hE'⟩
          · rw [hg]; rfl
        · subst r1 r2 r3
          have hg : sv_gro es mst cap e = true := by
            unfold sv_gro
            rw [Bool.not_eq_true] at hsel
            rw [hsel, decide_eq_true hlt2, decide_eq_true (by omega : es.length = cap)]
            rfl
          refine xw_vret dd_F_put_108 rfl ⟨rfl, ⟨xs.insertIdx i x1, ?_⟩, ?_, fun b b1 b2 b3 => (Decidable.em (b = ea)).elim (fun q => by rw [q]; exact r5) (fun q => g2 b b1 q b3), fun q => by rw [hg] at q; cases q⟩
          · rw [hg]
            exact ⟨hT', g1, hE'⟩
          · rw [hg]; rfl
    refine xw_iload_n dd_F_put_40 rfl ?_
    refine xw_aloadR_n dd_F_put_41 rfl ?_
    refine xw_get fl_F_10 dd_F_put_42 hT rfl ?_
    refine xw_cl0 (ct_A_size' hA) (iv_F_put_45 hAc) ok_A_size rfl rfl rfl ?_ (fun _ _ _ q => by cases q.1)
    rintro v h sz ⟨hv, rfl, rfl⟩
    cases hv
    refine xw_icmp_ge 85 dd_F_put_48 (by decide) (fun hc0 => ?_) (fun hc0 => ?_)
    · refine hin ?_
      rintro ⟨e', w1, w2⟩
      have w3 := (List.getElem?_eq_some_iff.mp w1).1
      exact absurd hc0 (nI_ge (by omega) (by omega))
    · have hil : i < es.length := by
        by_cases q : xs.length ≤ i
        · exact absurd (nI_le q (by omega)) hc0
        · omega
      obtain ⟨y, e', hx, hes, he⟩ := hE.at hil
      refine xw_aloadR_n dd_F_put_51 rfl ?_
      refine xw_get fl_F_10 dd_F_put_52 hT rfl ?_
      refine xw_iload_n dd_F_put_55 rfl ?_
      refine xw_cl0 (ct_A_get' hA hx) (iv_F_put_56 hAc) ok_A_get rfl rfl rfl ?_ (fun _ _ _ q => by cases q.1)
      rintro v h sz ⟨hv, rfl, rfl⟩
      cases hv
      refine xw_cast cc_F_28 ⟨_, _, rfl⟩ dd_F_put_59 he ?_
      refine xw_get fl_F_30 dd_F_put_62 he rfl ?_
      refine xw_aloadR_n dd_F_put_65 rfl ?_
      refine xw_get fl_F_30 dd_F_put_66 hx1 rfl ?_
      refine xw_icmp_ne 85 dd_F_put_69 (by decide) (fun hc2 => ?_) (fun hc2 => ?_)
      · refine hin ?_
        rintro ⟨e2, w1, w2⟩
        rw [hes] at w1
        cases w1
        exact hc2 w2
      · refine xw_aloadR_n dd_F_put_72 rfl ?_
        refine xw_get fl_F_10 dd_F_put_73 hT rfl ?_
        refine xw_iload_n dd_F_put_76 rfl ?_
        refine xw_aloadR_n dd_F_put_77 rfl ?_
        refine xw_cl0 (ct_A_set hA hx hx1 xo_1) (iv_F_put_78 hAc) ok_A_set rfl rfl rfl ?_ (fun _ _ _ q => by cases q.1)
        rintro v h' z1 ⟨hv, rfl, g1, g2⟩
        cases hv
        refine xw_pop dd_F_put_81 rfl ?_
        refine xw_goto 108 dd_F_put_82 (by decide) ?_
        have hke : ∀ y e', h y = some (en_c e') → h' y = h y := fun y e' hy => g2 y (k4 y e' hy).1 (k4 y e' hy).2.1
        have hle := hd _ _ hAc
        obtain ⟨-, -, f0, ⟨-, w2, -⟩, -⟩ := hA
        have hlea := hd _ _ w2
        have hsel : (es[sv_pos es e.1]?).any (fun e' => decide (e'.1 = e.1)) = true := by
          rw [hp, hes]
          exact decide_eq_true hc2
        have hg : sv_gro es mst cap e = false := by
          unfold sv_gro
          rw [hsel]
          rfl
        refine xw_vret dd_F_put_108 rfl ⟨rfl, ⟨xs.set i x1, ?_⟩, ?_, fun b b1 b2 _ => g2 b b1 (b2.resolve_right (by omega)), fun _ => g2 _ (by omega) (by omega)⟩
        · rw [hg]
          refine ⟨(g2 t k1 k2).trans hT, g1, ?_⟩
          unfold sv_put
          rw [if_pos hsel, hp]
          exact (hE.keep hke).set ((hke x1 e hx1).trans hx1)
        · rw [hg]; rfl
  have loop : ∀ (k i : Nat), i + k = es.length → (∀ j, j < i → ∀ e', es[j]? = some e' → e'.1 < e.1) → xa_W G mm_F_put 7 1 (if sv_gro es mst cap e = true then al_cap cap else 0) 2 [some (.ref t), some (.ref x1), some (.int (nI i))] [] h sz (xq_fp G h sz t a ea cap (nI mst) (sv_put es mst e) (sv_gro es mst cap e)) := by
    intro k
    induction k with
    | zero =>
      intro i hk hn
      refine xw_iload_n dd_F_put_2 rfl ?_
      refine xw_aloadR_n dd_F_put_3 rfl ?_
      refine xw_get fl_F_10 dd_F_put_4 hT rfl ?_
      refine xw_cl0 (ct_A_size' hA) (iv_F_put_7 hAc) ok_A_size rfl rfl rfl ?_ (fun _ _ _ q => by cases q.1)
      rintro v h sz ⟨hv, rfl, rfl⟩
      cases hv
      refine xw_icmp_ge 40 dd_F_put_10 (by decide) (fun hc => ?_) (fun hc => absurd (nI_le (by omega) (by omega)) hc)
      refine tail i (by omega) hn (fun e' w => ?_)
      have := (List.getElem?_eq_some_iff.mp w).1
      omega
    | succ k ih =>
      intro i hk hn
      obtain ⟨y, e', hx, hes, he⟩ := hE.at (i := i) (by omega)
      refine xw_iload_n dd_F_put_2 rfl ?_
      refine xw_aloadR_n dd_F_put_3 rfl ?_
      refine xw_get fl_F_10 dd_F_put_4 hT rfl ?_
      refine xw_cl0 (ct_A_size' hA) (iv_F_put_7 hAc) ok_A_size rfl rfl rfl ?_ (fun _ _ _ q => by cases q.1)
      rintro v h sz ⟨hv, rfl, rfl⟩
      cases hv
      refine xw_icmp_ge 40 dd_F_put_10 (by decide) (fun hc => absurd hc (nI_ge (by omega) (by omega))) (fun hc => ?_)
      refine xw_aloadR_n dd_F_put_13 rfl ?_
      refine xw_get fl_F_10 dd_F_put_14 hT rfl ?_
      refine xw_iload_n dd_F_put_17 rfl ?_
      refine xw_cl0 (ct_A_get' hA hx) (iv_F_put_18 hAc) ok_A_get rfl rfl rfl ?_ (fun _ _ _ q => by cases q.1)
      rintro v h sz ⟨hv, rfl, rfl⟩
      cases hv
      refine xw_cast cc_F_28 ⟨_, _, rfl⟩ dd_F_put_21 he ?_
      refine xw_get fl_F_30 dd_F_put_24 he rfl ?_
      refine xw_aloadR_n dd_F_put_27 rfl ?_
      refine xw_get fl_F_30 dd_F_put_28 hx1 rfl ?_
      refine xw_icmp_ge 40 dd_F_put_31 (by decide) (fun hc2 => ?_) (fun hc2 => ?_)
      · refine tail i (by omega) hn (fun e2 w => ?_)
        rw [hes] at w
        cases w
        exact Int32.not_lt.mpr hc2
      · refine xw_iinc dd_F_put_34 rfl (nI_1 i) (by decide) ?_
        refine xw_goto 2 dd_F_put_37 (by decide) ?_
        refine ih (i + 1) (by omega) (fun j hj e2 w => ?_)
        by_cases hji : j = i
        · subst hji
          rw [hes] at w
          cases w
          exact Int32.not_le.mp hc2
        · exact hn j (by omega) e2 w
  refine xt_o ok_F_put rfl rfl ?_
  refine xw_iconst 0 dd_F_put_0 (by decide) ?_
  refine xw_istore_n dd_F_put_1 (by decide) ?_
  exact loop es.length 0 (by omega) (fun j hj => by omega)
theorem ct_F_drop {t a ea cap : Nat} {most n : Int32} {xs : List Nat} {es : List sv_E} (H : ft_at G h t a ea cap most xs es) : xa_T G mm_F_drop 3 0 0 [.ref t, .int n] h sz (xq_fu G h sz t a ea cap most (es.eraseP (fun e => decide (e.1 = n)))) := by
  have H0 := H
  obtain ⟨k1, k2, k3, k4⟩ := ft_ne H
  obtain ⟨hT, hA, hE⟩ := H
  obtain ⟨fs, hAc⟩ := hA.cell
  have hlen := hE.len
  have hcl := hA.len
  have loop : ∀ (k i : Nat), i + k = es.length → (es.take i).find? (fun e => decide (e.1 = n)) = none → xa_W G mm_F_drop 3 0 0 2 [some (.ref t), some (.int n), some (.int (nI i))] [] h sz (xq_fu G h sz t a ea cap most (es.eraseP (fun e => decide (e.1 = n)))) := by
    intro k
    induction k with
    | zero =>
      intro i hk hn
      refine xw_iload_n dd_F_drop_2 rfl ?_
      refine xw_aloadR_n dd_F_drop_3 rfl ?_
      refine xw_get fl_F_10 dd_F_drop_4 hT rfl ?_
      refine xw_cl0 (ct_A_size' hA) (iv_F_drop_7 hAc) ok_A_size rfl rfl rfl ?_ (fun _ _ _ q => by cases q.1)
      rintro v h sz ⟨hv, rfl, rfl⟩
      cases hv
      refine xw_icmp_ge 47 dd_F_drop_10 (by decide) (fun hc => ?_) (fun hc => absurd (nI_le (by omega) (by omega)) hc)
      exact xw_vret dd_F_drop_47 rfl ⟨rfl, rfl, ⟨xs, by rw [sf_none (sf_end hn (by omega))]; exact H0⟩, fun _ _ _ => rfl⟩
    | succ k ih =>
      intro i hk hn
      obtain ⟨y, e, hx, hes, he⟩ := hE.at (i := i) (by omega)
      refine xw_iload_n dd_F_drop_2 rfl ?_
      refine xw_aloadR_n dd_F_drop_3 rfl ?_
      refine xw_get fl_F_10 dd_F_drop_4 hT rfl ?_
      refine xw_cl0 (ct_A_size' hA) (iv_F_drop_7 hAc) ok_A_size rfl rfl rfl ?_ (fun _ _ _ q => by cases q.1)
      rintro v h sz ⟨hv, rfl, rfl⟩
      cases hv
      refine xw_icmp_ge 47 dd_F_drop_10 (by decide) (fun hc => absurd hc (nI_ge (by omega) (by omega))) (fun hc => ?_)
      refine xw_aloadR_n dd_F_drop_13 rfl ?_
      refine xw_get fl_F_10 dd_F_drop_14 hT rfl ?_
      refine xw_iload_n dd_F_drop_17 rfl ?_
      refine xw_cl0 (ct_A_get' hA hx) (iv_F_drop_18 hAc) ok_A_get rfl rfl rfl ?_ (fun _ _ _ q => by cases q.1)
      rintro v h sz ⟨hv, rfl, rfl⟩
      cases hv
      refine xw_cast cc_F_28 ⟨_, _, rfl⟩ dd_F_drop_21 he ?_
      refine xw_get fl_F_30 dd_F_drop_24 he rfl ?_
      refine xw_iload_n dd_F_drop_27 rfl ?_
      refine xw_icmp_ne 41 dd_F_drop_28 (by decide) (fun hc2 => ?_) (fun hc2 => ?_)
      · refine xw_iinc dd_F_drop_41 rfl (nI_1 i) (by decide) ?_
        refine xw_goto 2 dd_F_drop_44 (by decide) ?_
        exact ih (i + 1) (by omega) (sf_step hn hes (decide_eq_false hc2))
      · refine xw_aloadR_n dd_F_drop_31 rfl ?_
        refine xw_get fl_F_10 dd_F_drop_32 hT rfl ?_
        refine xw_iload_n dd_F_drop_35 rfl ?_
        refine xw_cl0 (ct_A_remove hA hE.obj hx) (iv_F_drop_36 hAc) ok_A_remove rfl rfl rfl ?_ (fun _ _ _ q => by cases q.1)
        rintro v h' z1 ⟨hv, rfl, g1, g2⟩
        cases hv
        refine xw_pop dd_F_drop_39 rfl ?_
        have hke : ∀ y e', h y = some (en_c e') → h' y = h y := fun y e' hy => g2 y (k4 y e' hy).1 (k4 y e' hy).2.1
        exact xw_vret dd_F_drop_40 rfl ⟨rfl, rfl, ⟨_, (g2 t k1 k2).trans hT, g1, by rw [← sf_erase hn hes (decide_eq_true hc2)]; exact (hE.keep hke).del⟩, fun b b1 b2 => g2 b b1 (b2.resolve_right (by have := (List.getElem?_eq_some_iff.mp hx).1; omega))⟩
  refine xt_o ok_F_drop rfl rfl ?_
  refine xw_iconst 0 dd_F_drop_0 (by decide) ?_
  refine xw_istore_n dd_F_drop_1 (by decide) ?_
  exact loop es.length 0 (by omega) rfl
/-- those that stay -/
def sv_out (lo hi : Int32) (e : sv_E) : Bool := !(decide (lo < e.1) && decide (e.1 ≤ hi))
theorem ct_F_dropRange {t a ea cap : Nat} {most lo hi : Int32} {xs : List Nat} {es : List sv_E} (H : ft_at G h t a ea cap most xs es) : xa_T G mm_F_dropRange 3 0 0 [.ref t, .int lo, .int hi] h sz (xq_fu G h sz t a ea cap most (es.filter (sv_out lo hi))) := by
  obtain ⟨fs0, hAc0⟩ := H.2.1.cell
  have hlen0 := H.2.2.len
  have hcl0 := H.2.1.len
  have loop : ∀ (k : Nat) (h1 : xa_H) (ys : List Nat) (o : Option Value), k ≤ es.length → ft_at G h1 t a ea cap most ys (es.take k ++ (es.drop k).filter (sv_out lo hi)) → (∀ b, b ≠ a → (b ≠ ea ∨ cap = 0) → h1 b = h b) → xa_W G mm_F_dropRange 3 0 0 10 [some (.ref t), some (.int lo), some (.int hi), some (.int (nI k - 1)), o] [] h1 sz (xq_fu G h sz t a ea cap most (es.filter (sv_out lo hi))) := by
    intro k
    induction k with
    | zero =>
      intro h1 ys o hk H1 hf
      refine xw_iload_n dd_F_dropRange_10 rfl ?_
      refine xw_if_lt 57 dd_F_dropRange_11 (by decide) (fun hc => ?_) (fun hc => absurd (by decide) hc)
      exact xw_vret dd_F_dropRange_57 rfl ⟨rfl, rfl, ⟨ys, by simpa using H1⟩, hf⟩
    | succ k ih =>
      intro h1 ys o hk H1 hf
      have H0 := H1
      obtain ⟨k1, k2, k3, k4⟩ := ft_ne H1
      obtain ⟨hT, hA, hE⟩ := H1
      obtain ⟨fs, hAc⟩ := hA.cell
      have hcl := hA.len
      have hlt : k < es.length := by omega
      have hat : (es.take (k + 1) ++ (es.drop (k + 1)).filter (sv_out lo hi))[k]? = some es[k] := by
        rw [List.getElem?_append_left (by simp; omega), List.getElem?_take_of_lt (by omega), List.getElem?_eq_getElem hlt]
      obtain ⟨y, e, hx, hes, he⟩ := hE.at (i := k) (by simp; omega)
      rw [hat] at hes
      cases hes
      have hdrop : es.drop k = es[k] :: es.drop (k + 1) := (List.getElem_cons_drop hlt).symm
      have htake : es.take (k + 1) = es.take k ++ [es[k]] := by rw [List.take_add_one, List.getElem?_eq_getElem hlt]; rfl
      refine xw_iload_n dd_F_dropRange_10 rfl ?_
      rw [nI_pred]
      refine xw_if_lt 57 dd_F_dropRange_11 (by decide) (fun hc => absurd hc (nI_pos (by omega))) (fun hc => ?_)
      have hnx : ∀ (h2 : xa_H) (zs : List Nat) (o2 : Option Value), ft_at G h2 t a ea cap most zs (es.take k ++ (es.drop k).filter (sv_out lo hi)) → (∀ b, b ≠ a → (b ≠ ea ∨ cap = 0) → h2 b = h b) → xa_W G mm_F_dropRange 3 0 0 51 [some (.ref t), some (.int lo), some (.int hi), some (.int (nI k)), o2] [] h2 sz (xq_fu G h sz t a ea cap most (es.filter (sv_out lo hi))) := by
        intro h2 zs o2 H2 hf2
        refine xw_iinc dd_F_dropRange_51 rfl (v := nI k - 1) (by rw [Int32.sub_eq_add_neg]; rfl) (by decide) ?_
        refine xw_goto 10 dd_F_dropRange_54 (by decide) ?_
        exact ih h2 zs o2 (by omega) H2 hf2
      refine xw_aloadR_n dd_F_dropRange_14 rfl ?_
      refine xw_get fl_F_10 dd_F_dropRange_15 hT rfl ?_
      refine xw_iload_n (x := nI k) dd_F_dropRange_18 rfl ?_
      refine xw_cl0 (ct_A_get' hA hx) (iv_F_dropRange_19 hAc) ok_A_get rfl rfl rfl ?_ (fun _ _ _ q => by cases q.1)
      rintro v h1 sz ⟨hv, rfl, rfl⟩
      cases hv
      refine xw_cast cc_F_28 ⟨_, _, rfl⟩ dd_F_dropRange_22 he ?_
      refine xw_get fl_F_30 dd_F_dropRange_25 he rfl ?_
      refine xw_istore dd_F_dropRange_28 (by decide) ?_
      refine xw_iload dd_F_dropRange_30 rfl ?_
      refine xw_iload_n dd_F_dropRange_32 rfl ?_
      refine xw_icmp_le 51 dd_F_dropRange_33 (by decide) (fun hc1 => ?_) (fun hc1 => ?_)
      · have hkp : sv_out lo hi es[k] = true := by
          unfold sv_out
          rw [decide_eq_false (Int32.not_lt.mpr hc1)]
          rfl
        exact hnx h1 ys _ (by rw [hdrop, List.filter_cons, if_pos hkp]; rw [htake, List.append_assoc] at H0; exact H0) hf
      · refine xw_iload dd_F_dropRange_36 rfl ?_
        refine xw_iload_n dd_F_dropRange_38 rfl ?_
        refine xw_icmp_gt 51 dd_F_dropRange_39 (by decide) (fun hc2 => ?_) (fun hc2 => ?_)
        · have hkp : sv_out lo hi es[k] = true := by
            unfold sv_out
            rw [decide_eq_false (Int32.not_le.mpr hc2), Bool.and_false]
            rfl
          exact hnx h1 ys _ (by rw [hdrop, List.filter_cons, if_pos hkp]; rw [htake, List.append_assoc] at H0; exact H0) hf
        · have hkp : ¬ sv_out lo hi es[k] = true := by
            unfold sv_out
            rw [decide_eq_true (Int32.not_le.mp hc1), decide_eq_true (Int32.not_lt.mp hc2)]
            decide
          refine xw_aloadR_n dd_F_dropRange_42 rfl ?_
          refine xw_get fl_F_10 dd_F_dropRange_43 hT rfl ?_
          refine xw_iload_n dd_F_dropRange_46 rfl ?_
          refine xw_cl0 (ct_A_remove hA hE.obj hx) (iv_F_dropRange_47 hAc) ok_A_remove rfl rfl rfl ?_ (fun _ _ _ q => by cases q.1)
          rintro v h' z1 ⟨hv, rfl, g1, g2⟩
          cases hv
          refine xw_pop dd_F_dropRange_50 rfl ?_
          have hke : ∀ y e', h1 y = some (en_c e') → h' y = h1 y := fun y e' hy => g2 y (k4 y e' hy).1 (k4 y e' hy).2.1
          have hE2 := (hE.keep hke).del (i := k)
          have hdel : (es.take (k + 1) ++ (es.drop (k + 1)).filter (sv_out lo hi)).eraseIdx k = es.take k ++ (es.drop k).filter (sv_out lo hi) := by
            rw [hdrop, List.filter_cons, if_neg hkp, htake, List.append_assoc, List.eraseIdx_append_of_length_le (by simp; omega)]
            have : k - (es.take k).length = 0 := by simp; omega
            rw [this]
            rfl
          rw [hdel] at hE2
          exact hnx h' _ _ ⟨(g2 t k1 k2).trans hT, g1, hE2⟩ (fun b b1 b2 => (g2 b b1 (b2.resolve_right (by have := (List.getElem?_eq_some_iff.mp hx).1; omega))).trans (hf b b1 b2))
  refine xt_o ok_F_dropRange rfl rfl ?_
  obtain ⟨hT, hA, hE⟩ := id H
  refine xw_aloadR_n dd_F_dropRange_0 rfl ?_
  refine xw_get fl_F_10 dd_F_dropRange_1 hT rfl ?_
  refine xw_cl0 (ct_A_size' hA) (iv_F_dropRange_4 hAc0) ok_A_size rfl rfl rfl ?_ (fun _ _ _ q => by cases q.1)
  rintro v h' z1 ⟨hv, rfl, rfl⟩
  cases hv
  refine xw_iconst 1 dd_F_dropRange_7 (by decide) ?_
  refine xw_isub dd_F_dropRange_8 ?_
  refine xw_istore_n dd_F_dropRange_9 (by decide) ?_
  rw [hlen0]
  exact loop es.length h' xs none (Nat.le_refl _) (by simpa using H) (fun _ _ _ => rfl)
theorem ct_F_isLike {t a ea cap t2 a2 ea2 cap2 : Nat} {most most2 : Int32} {xs ys : List Nat} {es es2 : List sv_E} (H : ft_at G h t a ea cap most xs es) (H2 : ft_at G h t2 a2 ea2 cap2 most2 ys es2) : xa_T G mm_F_isLike 3 0 0 [.ref t, .ref t2] h sz (xq_same h sz (some (.int (if es = es2 then 1 else 0)))) := by
  obtain ⟨hT, hA, hE⟩ := H
  obtain ⟨fs, hAc⟩ := hA.cell
  have hlen := hE.len
  have hcl := hA.len
  obtain ⟨hT2, hA2, hE2⟩ := H2
  obtain ⟨fs2, hAc2⟩ := hA2.cell
  have hlen2 := hE2.len
  have hcl2 := hA2.len
  have loop : es.length = es2.length → ∀ (k i : Nat), i + k = es.length → es.take i = es2.take i → xa_W G mm_F_isLike 3 0 0 21 [some (.ref t), some (.ref t2), some (.int (nI i))] [] h sz (xq_same h sz (some (.int (if es = es2 then 1 else 0)))) := by
    intro hl12 k
    induction k with
    | zero =>
      intro i hk hn
      refine xw_iload_n dd_F_isLike_21 rfl ?_
      refine xw_aloadR_n dd_F_isLike_22 rfl ?_
      refine xw_get fl_F_10 dd_F_isLike_23 hT rfl ?_
      refine xw_cl0 (ct_A_size' hA) (iv_F_isLike_26 hAc) ok_A_size rfl rfl rfl ?_ (fun _ _ _ q => by cases q.1)
      rintro v h sz ⟨hv, rfl, rfl⟩
      cases hv
      refine xw_icmp_ge 68 dd_F_isLike_29 (by decide) (fun hc => ?_) (fun hc => absurd (nI_le (by omega) (by omega)) hc)
      refine xw_iconst 1 dd_F_isLike_68 (by decide) ?_
      refine xw_zret dd_F_isLike_69 rfl rfl ⟨?_, rfl, rfl⟩
      rw [List.take_of_length_le (by omega), List.take_of_length_le (by omega)] at hn
      rw [if_pos hn]
    | succ k ih =>
      intro i hk hn
      obtain ⟨y, e, hx, hes, he⟩ := hE.at (i := i) (by omega)
      obtain ⟨y2, e2, hx2, hes2, he2⟩ := hE2.at (i := i) (by omega)
      refine xw_iload_n dd_F_isLike_21 rfl ?_
      refine xw_aloadR_n dd_F_isLike_22 rfl ?_
      refine xw_get fl_F_10 dd_F_isLike_23 hT rfl ?_
      refine xw_cl0 (ct_A_size' hA) (iv_F_isLike_26 hAc) ok_A_size rfl rfl rfl ?_ (fun _ _ _ q => by cases q.1)
      rintro v h sz ⟨hv, rfl, rfl⟩
      cases hv
      refine xw_icmp_ge 68 dd_F_isLike_29 (by decide) (fun hc => absurd hc (nI_ge (by omega) (by omega))) (fun hc => ?_)
      refine xw_aloadR_n dd_F_isLike_32 rfl ?_
      refine xw_get fl_F_10 dd_F_isLike_33 hT rfl ?_
      refine xw_iload_n dd_F_isLike_36 rfl ?_
      refine xw_cl0 (ct_A_get' hA hx) (iv_F_isLike_37 hAc) ok_A_get rfl rfl rfl ?_ (fun _ _ _ q => by cases q.1)
      rintro v h sz ⟨hv, rfl, rfl⟩
      cases hv
      refine xw_cast cc_F_28 ⟨_, _, rfl⟩ dd_F_isLike_40 he ?_
      refine xw_aloadR_n dd_F_isLike_43 rfl ?_
      refine xw_get fl_F_10 dd_F_isLike_44 hT2 rfl ?_
      refine xw_iload_n dd_F_isLike_47 rfl ?_
      refine xw_cl0 (ct_A_get' hA2 hx2) (iv_F_isLike_48 hAc2) ok_A_get rfl rfl rfl ?_ (fun _ _ _ q => by cases q.1)
      rintro v h sz ⟨hv, rfl, rfl⟩
      cases hv
      refine xw_cast cc_F_28 ⟨_, _, rfl⟩ dd_F_isLike_51 he2 ?_
      refine xw_cl0 (ct_E_isLike he he2) (iv_F_isLike_54 he) ok_E_isLike rfl rfl rfl ?_ (fun _ _ _ q => by cases q.1)
      rintro v h sz ⟨hv, rfl, rfl⟩
      cases hv
      by_cases hee : e = e2
      · rw [if_pos hee]
        refine xw_if_ne 62 dd_F_isLike_57 (by decide) (fun hc2 => ?_) (fun hc2 => absurd hc2 (by decide))
        refine xw_iinc dd_F_isLike_62 rfl (nI_1 i) (by decide) ?_
        refine xw_goto 21 dd_F_isLike_65 (by decide) ?_
        refine ih (i + 1) (by omega) ?_
        rw [List.take_add_one, List.take_add_one, hn, hes, hes2, hee]
      · rw [if_neg hee]
        refine xw_if_ne 62 dd_F_isLike_57 (by decide) (fun hc2 => absurd rfl hc2) (fun hc2 => ?_)
        refine xw_iconst 0 dd_F_isLike_60 (by decide) ?_
        refine xw_zret dd_F_isLike_61 rfl rfl ⟨?_, rfl, rfl⟩
        rw [if_neg (fun q => hee ?_)]
        rw [q, hes2] at hes
        exact (Option.some.inj hes).symm
  refine xt_o ok_F_isLike rfl rfl ?_
  refine xw_aloadR_n dd_F_isLike_0 rfl ?_
  refine xw_get fl_F_10 dd_F_isLike_1 hT rfl ?_
  refine xw_cl0 (ct_A_size' hA) (iv_F_isLike_4 hAc) ok_A_size rfl rfl rfl ?_ (fun _ _ _ q => by cases q.1)
  rintro v h sz ⟨hv, rfl, rfl⟩
  cases hv
  refine xw_aloadR_n dd_F_isLike_7 rfl ?_
  refine xw_get fl_F_10 dd_F_isLike_8 hT2 rfl ?_
  refine xw_cl0 (ct_A_size' hA2) (iv_F_isLike_11 hAc2) ok_A_size rfl rfl rfl ?_ (fun _ _ _ q => by cases q.1)
  rintro v h sz ⟨hv, rfl, rfl⟩
  cases hv
  refine xw_icmp_eq 19 dd_F_isLike_14 (by decide) (fun hc => ?_) (fun hc => ?_)
  · refine xw_iconst 0 dd_F_isLike_19 (by decide) ?_
    refine xw_istore_n dd_F_isLike_20 (by decide) ?_
    have hl12 : es.length = es2.length := by
      have := (nI_eq (by omega) (by omega)).mp hc
      omega
    exact loop hl12 es.length 0 (by omega) rfl
  · refine xw_iconst 0 dd_F_isLike_17 (by decide) ?_
    refine xw_zret dd_F_isLike_18 rfl rfl ⟨?_, rfl, rfl⟩
    rw [if_neg (fun q => hc ?_)]
    rw [hlen, hlen2, q]
end FW
end
section
/-! Gatherings (by program: wip/whole/mk21.py) -/
/-- what is said of these cells still holds -/
def xk (h h' : xa_H) (P : Nat → xa_E → Prop) : Prop := ∀ (b : Nat) (e : xa_E), h b = some e → P b e → h' b = some e
theorem xk.trans {h h1 h2 : xa_H} {P : Nat → xa_E → Prop} (H1 : xk h h1 P) (H2 : xk h1 h2 P) : xk h h2 P := fun b e hb hp => H2 b e (H1 b e hb hp) hp
theorem xk.weak {h h1 : xa_H} {P P' : Nat → xa_E → Prop} (H : xk h h1 P) (hp : ∀ b e, h b = some e → P' b e → P b e) : xk h h1 P' := fun b e hb h1 => H b e hb (hp b e hb h1)
theorem xk.refl {h : xa_H} {P : Nat → xa_E → Prop} : xk h h P := fun _ _ hb _ => hb
abbrev gt_d (g : Int32 × Int32) : xa_E := gt_c g.1 g.2
def gt_l (h : xa_H) (xs : List Nat) (gs : List (Int32 × Int32)) : Prop := xs.map h = gs.map (fun g => some (gt_d g))
theorem gt_l.len {h : xa_H} {xs : List Nat} {gs : List (Int32 × Int32)} (H : gt_l h xs gs) : xs.length = gs.length := by
  have := congrArg List.length H
  simpa using this
theorem gt_l.at {h : xa_H} {xs : List Nat} {gs : List (Int32 × Int32)} (H : gt_l h xs gs) {i : Nat} (hi : i < gs.length) : ∃ y g, xs[i]? = some y ∧ gs[i]? = some g ∧ h y = some (gt_d g) := by
  have hl := H.len
  have h1 := congrArg (fun l => l[i]?) H
  simp only [List.getElem?_map] at h1
  rw [List.getElem?_eq_getElem (by omega : i < xs.length), List.getElem?_eq_getElem hi] at h1
  exact ⟨xs[i]'(by omega), gs[i], List.getElem?_eq_getElem (by omega), List.getElem?_eq_getElem hi, by simpa using h1⟩
theorem gt_l.mem {h : xa_H} {xs : List Nat} {gs : List (Int32 × Int32)} (H : gt_l h xs gs) {y : Nat} (hy : y ∈ xs) : ∃ g, g ∈ gs ∧ h y = some (gt_d g) := by
  have h1 : h y ∈ xs.map h := List.mem_map_of_mem hy
  rw [H] at h1
  obtain ⟨e, he, h2⟩ := List.mem_map.mp h1
  exact ⟨e, he, h2.symm⟩
theorem gt_l.keep {h h1 : xa_H} {xs : List Nat} {gs : List (Int32 × Int32)} (H : gt_l h xs gs) (hk : ∀ y g, h y = some (gt_d g) → h1 y = h y) : gt_l h1 xs gs := by
  unfold gt_l at H ⊢
  rw [← H]
  refine List.map_congr_left (fun y hy => ?_)
  obtain ⟨e, -, h2⟩ := gt_l.mem H hy
  exact hk y e h2
theorem gt_l.obj {h : xa_H} {xs : List Nat} {gs : List (Int32 × Int32)} (H : gt_l h xs gs) : xo_in h xs := by
  intro y hy
  obtain ⟨e, -, h2⟩ := H.mem hy
  exact ⟨5, _, h2, xo_5⟩
theorem gt_l.del {h : xa_H} : ∀ {xs : List Nat} {gs : List (Int32 × Int32)} {i : Nat}, gt_l h xs gs → gt_l h (xs.eraseIdx i) (gs.eraseIdx i)
  | [], [], i, H => by simpa using H
  | x1 :: xs, e1 :: es, 0, H => by
    unfold gt_l at H ⊢
    simp only [List.map_cons, List.cons.injEq] at H
    exact H.2
  | x1 :: xs, e1 :: es, i + 1, H => by
    unfold gt_l at H
    simp only [List.map_cons, List.cons.injEq] at H
    have := gt_l.del (i := i) (show gt_l h xs es from H.2)
    unfold gt_l at this ⊢
    simp only [List.eraseIdx_cons_succ, List.map_cons]
    rw [H.1, this]
  | [], e1 :: es, i, H => by
    have := gt_l.len H
    simp at this
  | x1 :: xs, [], i, H => by
    have := gt_l.len H
    simp at this
theorem gt_l.app {h : xa_H} {xs : List Nat} {gs : List (Int32 × Int32)} {y : Nat} {g : Int32 × Int32} (H : gt_l h xs gs) (hy : h y = some (gt_d g)) : gt_l h (xs ++ [y]) (gs ++ [g]) := by
  unfold gt_l at H ⊢
  rw [List.map_append, List.map_append, H]
  simp [hy]
theorem gt_l.upd {h h1 : xa_H} {xs : List Nat} {gs : List (Int32 × Int32)} {i y : Nat} {g : Int32 × Int32} (H : gt_l h xs gs) (hn : xs.Nodup) (hx : xs[i]? = some y) (h2 : h1 y = some (gt_d g)) (h3 : ∀ b, b ≠ y → h1 b = h b) : gt_l h1 xs (gs.set i g) := by
  have hl := H.len
  obtain ⟨hi, hy⟩ := List.getElem?_eq_some_iff.mp hx
  unfold gt_l at H ⊢
  refine List.ext_getElem? (fun j => ?_)
  have hj := congrArg (fun l => l[j]?) H
  simp only [List.getElem?_map] at hj ⊢
  rw [List.getElem?_set]
  by_cases e : i = j
  · subst e
    rw [if_pos rfl, if_pos (by omega), hx]
    simp [h2]
  · rw [if_neg e, ← hj]
    cases hxj : xs[j]? with
    | none => rfl
    | some z =>
      obtain ⟨hj2, hz⟩ := List.getElem?_eq_some_iff.mp hxj
      have : z ≠ y := fun q => by
        rw [← hy, ← hz] at q
        rcases Nat.lt_or_gt_of_ne e with w | w
        · exact List.pairwise_iff_getElem.mp hn i j hi hj2 w q.symm
        · exact List.pairwise_iff_getElem.mp hn j i hj2 hi w q
      simp [h3 z this]
/-- gatherings at t: the list at a, its array at ea, the gatherings at xs -/
def gh_x (G : xa_G) (h : xa_H) (t a ea cap : Nat) (xs : List Nat) (gs : List (Int32 × Int32)) : Prop := h t = some (.inr (6, [.ref a])) ∧ al_x G h a ea cap xs ∧ gt_l h xs gs ∧ xs.Nodup ∧ ∀ y ∈ xs, G.2.2.1 ≤ y
def gh_at (G : xa_G) (h : xa_H) (t a ea cap : Nat) (gs : List (Int32 × Int32)) : Prop := ∃ xs, gh_x G h t a ea cap xs gs
/-- what is found: nothing, or a gathering's cell and its place -/
def gt_r (xs : List Nat) (gs : List (Int32 × Int32)) (p : Int32 × Int32 → Bool) (r : Option Nat) : Prop := (gs.find? p = none ∧ r = none) ∨ ∃ g y i, gs.find? p = some g ∧ r = some y ∧ xs[i]? = some y ∧ gs[i]? = some g ∧ (gs.take i).find? p = none ∧ p g = true
theorem gh_ne {G : xa_G} {h : xa_H} {t a ea cap : Nat} {xs : List Nat} {gs : List (Int32 × Int32)} (H : gh_x G h t a ea cap xs gs) : t ≠ a ∧ t ≠ ea ∧ a ≠ ea ∧ (∀ y g, h y = some (gt_d g) → y ≠ a ∧ y ≠ ea ∧ y ≠ t) := by
  obtain ⟨hT, hA, hE, -⟩ := H
  have hne := hA.ne
  obtain ⟨-, -, f, ⟨⟨mc, h1⟩, h2, -⟩, -⟩ := hA
  refine ⟨fun e => ?_, fun e => ?_, hne, fun y e hy => ⟨fun q => ?_, fun q => ?_, fun q => ?_⟩⟩
  · subst e; rw [hT] at h1; cases h1
  · subst e; rw [hT] at h2; cases h2
  · subst q; rw [hy] at h1; cases h1
  · subst q; rw [hy] at h2; cases h2
  · subst q; rw [hy] at hT; cases hT
theorem sg_none {gs : List (Int32 × Int32)} {f r : Int32} (hn : gs.find? (fun g => decide (g.1 = f)) = none) : sv_gather gs f r = (r, gs ++ [(f, r)]) := by
  induction gs with
  | nil => rfl
  | cons g gs ih =>
    rw [List.find?_cons] at hn
    have hg : ¬ g.1 = f := fun q => by simp [q] at hn
    rw [decide_eq_false hg] at hn
    unfold sv_gather
    rw [if_neg hg, ih hn]
    rfl
theorem sg_hit : ∀ {gs : List (Int32 × Int32)} {f r : Int32} {i : Nat} {g : Int32 × Int32}, (gs.take i).find? (fun g => decide (g.1 = f)) = none → gs[i]? = some g → g.1 = f → sv_gather gs f r = (g.2 ||| r, gs.set i (g.1, g.2 ||| r))
  | [], f, r, i, g, _, he, _ => by simp at he
  | a :: gs, f, r, 0, g, _, he, hp => by
    simp at he
    subst he
    unfold sv_gather
    rw [if_pos hp]
    rfl
  | a :: gs, f, r, i + 1, g, hn, he, hp => by
    simp at he
    rw [List.take_succ_cons, List.find?_cons] at hn
    have hg : ¬ a.1 = f := fun q => by simp [q] at hn
    rw [decide_eq_false hg] at hn
    unfold sv_gather
    rw [if_neg hg, sg_hit hn he hp]
    rfl
section GH
variable {G : xa_G} {h : xa_H} {sz : Nat}
theorem ct_H_init {a : Nat} {f : Nat → Option Nat} (ha : h a = some (.inr (6, [.null]))) (hB : G.2.2.1 ≤ a) (hu : h G.2.2.2.1 = some (xr_q 3 0 f)) : xa_T G mm_H_init 4 1 3 [.ref a] h sz (fun o h' z => o = .returned none ∧ z = sz + 1 ∧ gh_at G h' a sz G.2.2.2.1 0 [] ∧ ∀ b, b ≠ a → b ≠ sz → h' b = h b) := by
  refine xt_o ok_H_init rfl rfl ?_
  refine xw_dom (fun hd hBz => ?_)
  have hla := hd _ _ ha
  have hlu := hd _ _ hu
  refine xw_aloadR_n dd_H_init_0 rfl ?_
  refine xw_objInit ol_H_3 wo_in wo_co (by decide) (by decide) dd_H_init_1 ?_
  refine xw_aloadR_n dd_H_init_4 rfl ?_
  refine xw_less (kc' := 0 + 1) (ks' := 0 + 3) (by decide) (by decide) ?_
  refine xw_newA nw_H_9 dd_H_init_5 (fun h1 n1 f1 => ?_)
  refine xw_dup dd_H_init_8 rfl ?_
  refine xw_cl0 (ct_A_init n1 hBz ((f1 _ (by omega)).trans hu)) iv_H_init_9 ok_A_init rfl rfl rfl ?_ (fun _ _ _ q => by cases q.1)
  rintro v h2 z1 ⟨hv, rfl, q1, q2⟩
  cases hv
  have hua : a ≠ G.2.2.2.1 := fun e => by
    rw [← e, ha] at hu
    cases hu
  refine xw_putA fl_H_12 fz_H_12 (by decide) dd_H_init_12 ((q2 a (by omega)).trans ((f1 a (by omega)).trans ha)) rfl hB rfl rfl (fun h3 n3 f3 => ?_)
  obtain ⟨k1, k2, g, ⟨⟨mc, k3⟩, k4, k5, k6⟩, k7⟩ := q1
  refine xw_vret dd_H_init_15 rfl ⟨rfl, rfl, ⟨[], n3, ⟨k1, k2, g, ⟨⟨mc, (f3 sz (by omega)).trans k3⟩, (f3 _ (fun e => hua e.symm)).trans k4, k5, k6⟩, k7⟩, rfl, List.nodup_nil, fun y hy => by simp at hy⟩, fun b b1 b2 => ?_⟩
  exact (f3 b b1).trans ((q2 b b2).trans (f1 b b2))
theorem ct_H_count {t a ea cap : Nat} {gs : List (Int32 × Int32)} (H : gh_at G h t a ea cap gs) : xa_T G mm_H_count 1 0 0 [.ref t] h sz (xq_same h sz (some (.int (nI gs.length)))) := by
  obtain ⟨xs, hT, hA, hE, -⟩ := H
  obtain ⟨fs, hAc⟩ := hA.cell
  refine xt_o ok_H_count rfl rfl ?_
  refine xw_aloadR_n dd_H_count_0 rfl ?_
  refine xw_get fl_H_12 dd_H_count_1 hT rfl ?_
  refine xw_cl0 (ct_A_size' hA) (iv_H_count_4 hAc) ok_A_size rfl rfl rfl ?_ (fun _ _ _ q => by cases q.1)
  rintro v h sz ⟨hv, rfl, rfl⟩
  cases hv
  exact xw_iret dd_H_count_7 rfl ⟨by rw [hE.len], rfl, rfl⟩
/-- the first gathering's cell -/
def gt_f (h : xa_H) (gs : List (Int32 × Int32)) (r : Option Nat) : Prop := (gs.head? = none ∧ r = none) ∨ ∃ g y, gs.head? = some g ∧ r = some y ∧ h y = some (gt_d g)
theorem ct_H_first {t a ea cap : Nat} {gs : List (Int32 × Int32)} (H : gh_at G h t a ea cap gs) : xa_T G mm_H_first 3 0 0 [.ref t] h sz (fun o h' z => h' = h ∧ z = sz ∧ ∃ r, o = .returned (some (va_rf r)) ∧ gt_f h gs r) := by
  obtain ⟨xs, hT, hA, hE, -⟩ := H
  obtain ⟨fs, hAc⟩ := hA.cell
  have hlen := hE.len
  refine xt_o ok_H_first rfl rfl ?_
  refine xw_aloadR_n dd_H_first_0 rfl ?_
  refine xw_get fl_H_12 dd_H_first_1 hT rfl ?_
  refine xw_cl0 (ct_A_isEmpty' hA) (iv_H_first_4 hAc) ok_A_isEmpty rfl rfl rfl ?_ (fun _ _ _ q => by cases q.1)
  rintro v h sz ⟨hv, rfl, rfl⟩
  cases hv
  by_cases h0 : xs.length = 0
  · rw [if_pos h0]
    refine xw_if_eq 14 dd_H_first_7 (by decide) (fun hc => absurd hc (by decide)) (fun hc => ?_)
    refine xw_null dd_H_first_10 ?_
    refine xw_goto 25 dd_H_first_11 (by decide) ?_
    have : gs = [] := List.eq_nil_of_length_eq_zero (by omega)
    subst this
    exact xw_aretN dd_H_first_25 rfl (Or.inl ⟨_, rfl⟩) ⟨rfl, rfl, none, rfl, Or.inl ⟨rfl, rfl⟩⟩
  · rw [if_neg h0]
    refine xw_if_eq 14 dd_H_first_7 (by decide) (fun hc => ?_) (fun hc => absurd rfl hc)
    obtain ⟨y, g, hx, hes, he⟩ := hE.at (i := 0) (by omega)
    refine xw_aloadR_n dd_H_first_14 rfl ?_
    refine xw_get fl_H_12 dd_H_first_15 hT rfl ?_
    refine xw_iconst 0 dd_H_first_18 (by decide) ?_
    refine xw_cl0 (ct_A_get' (i := 0) hA hx) (iv_H_first_19 hAc) ok_A_get rfl rfl rfl ?_ (fun _ _ _ q => by cases q.1)
    rintro v h sz ⟨hv, rfl, rfl⟩
    cases hv
    refine xw_cast cc_H_30 ⟨_, _, rfl⟩ dd_H_first_22 he ?_
    exact xw_aretR dd_H_first_25 rfl (Or.inl ⟨_, rfl⟩) ⟨rfl, rfl, some y, rfl, Or.inr ⟨g, y, by rw [List.head?_eq_getElem?]; exact hes, rfl, he⟩⟩
theorem ct_H_gatheringOf {t a ea cap : Nat} {xs : List Nat} {gs : List (Int32 × Int32)} {n : Int32} (H : gh_x G h t a ea cap xs gs) : xa_T G mm_H_gatheringOf 3 0 0 [.ref t, .int n] h sz (fun o h' z => h' = h ∧ z = sz ∧ ∃ r, o = .returned (some (va_rf r)) ∧ gt_r xs gs (fun g => decide (g.1 = n)) r) := by
  obtain ⟨hT, hA, hE, -⟩ := H
  obtain ⟨fs, hAc⟩ := hA.cell
  have hlen := hE.len
  have hcl := hA.len
  have loop : ∀ (k i : Nat) (o : Option Value), i + k = gs.length → (gs.take i).find? (fun g => decide (g.1 = n)) = none → xa_W G mm_H_gatheringOf 3 0 0 2 [some (.ref t), some (.int n), some (.int (nI i)), o] [] h sz (fun o h' z => h' = h ∧ z = sz ∧ ∃ r, o = .returned (some (va_rf r)) ∧ gt_r xs gs (fun g => decide (g.1 = n)) r) := by
    intro k
    induction k with
    | zero =>
      intro i o hk hn
      refine xw_iload_n dd_H_gatheringOf_2 rfl ?_
      refine xw_aloadR_n dd_H_gatheringOf_3 rfl ?_
      refine xw_get fl_H_12 dd_H_gatheringOf_4 hT rfl ?_
      refine xw_cl0 (ct_A_size' hA) (iv_H_gatheringOf_7 hAc) ok_A_size rfl rfl rfl ?_ (fun _ _ _ q => by cases q.1)
      rintro v h sz ⟨hv, rfl, rfl⟩
      cases hv
      refine xw_icmp_ge 41 dd_H_gatheringOf_10 (by decide) (fun hc => ?_) (fun hc => absurd (nI_le (by omega) (by omega)) hc)
      refine xw_null dd_H_gatheringOf_41 ?_
      exact xw_aretN dd_H_gatheringOf_42 rfl (Or.inl ⟨_, rfl⟩) ⟨rfl, rfl, none, rfl, Or.inl ⟨sf_end hn (by omega), rfl⟩⟩
    | succ k ih =>
      intro i o hk hn
      obtain ⟨y, e, hx, hes, he⟩ := hE.at (i := i) (by omega)
      refine xw_iload_n dd_H_gatheringOf_2 rfl ?_
      refine xw_aloadR_n dd_H_gatheringOf_3 rfl ?_
      refine xw_get fl_H_12 dd_H_gatheringOf_4 hT rfl ?_
      refine xw_cl0 (ct_A_size' hA) (iv_H_gatheringOf_7 hAc) ok_A_size rfl rfl rfl ?_ (fun _ _ _ q => by cases q.1)
      rintro v h sz ⟨hv, rfl, rfl⟩
      cases hv
      refine xw_icmp_ge 41 dd_H_gatheringOf_10 (by decide) (fun hc => absurd hc (nI_ge (by omega) (by omega))) (fun hc => ?_)
      refine xw_aloadR_n dd_H_gatheringOf_13 rfl ?_
      refine xw_get fl_H_12 dd_H_gatheringOf_14 hT rfl ?_
      refine xw_iload_n dd_H_gatheringOf_17 rfl ?_
      refine xw_cl0 (ct_A_get' hA hx) (iv_H_gatheringOf_18 hAc) ok_A_get rfl rfl rfl ?_ (fun _ _ _ q => by cases q.1)
      rintro v h sz ⟨hv, rfl, rfl⟩
      cases hv
      refine xw_cast cc_H_30 ⟨_, _, rfl⟩ dd_H_gatheringOf_21 he ?_
      refine xw_astoreR_n dd_H_gatheringOf_24 (by decide) ?_
      refine xw_aloadR_n dd_H_gatheringOf_25 rfl ?_
      refine xw_get fl_H_32 dd_H_gatheringOf_26 he rfl ?_
      refine xw_iload_n dd_H_gatheringOf_29 rfl ?_
      refine xw_icmp_ne 35 dd_H_gatheringOf_30 (by decide) (fun hc => ?_) (fun hc => ?_)
      · refine xw_iinc dd_H_gatheringOf_35 rfl (nI_1 i) (by decide) ?_
        refine xw_goto 2 dd_H_gatheringOf_38 (by decide) ?_
        exact ih (i + 1) _ (by omega) (sf_step hn hes (decide_eq_false hc))
      · refine xw_aloadR_n dd_H_gatheringOf_33 rfl ?_
        exact xw_aretR dd_H_gatheringOf_34 rfl (Or.inl ⟨_, rfl⟩) ⟨rfl, rfl, some y, rfl, Or.inr ⟨e, y, i, sf_hit hn hes (decide_eq_true hc), rfl, hx, hes, hn, decide_eq_true hc⟩⟩
  refine xt_o ok_H_gatheringOf rfl rfl ?_
  refine xw_iconst 0 dd_H_gatheringOf_0 (by decide) ?_
  refine xw_istore_n dd_H_gatheringOf_1 (by decide) ?_
  exact loop gs.length 0 _ (by omega) rfl
/-- the gathering that must be closed first -/
def sv_way (gs : List (Int32 × Int32)) (f : Int32) : Option (Int32 × Int32) := if gs.length < 3 ∨ (sv_gOf gs f).isSome then none else gs.head?
def gt_w (h : xa_H) (g : Option (Int32 × Int32)) (r : Option Nat) : Prop := (g = none ∧ r = none) ∨ ∃ g' y, g = some g' ∧ r = some y ∧ h y = some (gt_d g')
theorem ct_H_inTheWayOf {t a ea cap : Nat} {gs : List (Int32 × Int32)} {n : Int32} (H : gh_at G h t a ea cap gs) : xa_T G mm_H_inTheWayOf 4 0 0 [.ref t, .int n] h sz (fun o h' z => h' = h ∧ z = sz ∧ ∃ r, o = .returned (some (va_rf r)) ∧ gt_w h (sv_way gs n) r) := by
  have H0 := H
  obtain ⟨xs, H1⟩ := H
  obtain ⟨hT, hA, hE, -⟩ := id H1
  obtain ⟨fs, hAc⟩ := hA.cell
  have hlen := hE.len
  have hcl := hA.len
  have no : sv_way gs n = none → xa_W G mm_H_inTheWayOf 4 0 0 19 [some (.ref t), some (.int n)] [] h sz (fun o h' z => h' = h ∧ z = sz ∧ ∃ r, o = .returned (some (va_rf r)) ∧ gt_w h (sv_way gs n) r) := by
    intro hw
    refine xw_null dd_H_inTheWayOf_19 ?_
    refine xw_goto 27 dd_H_inTheWayOf_20 (by decide) ?_
    exact xw_aretN dd_H_inTheWayOf_27 rfl (Or.inl ⟨_, rfl⟩) ⟨rfl, rfl, none, rfl, Or.inl ⟨hw, rfl⟩⟩
  refine xt_o ok_H_inTheWayOf rfl rfl ?_
  refine xw_aloadR_n dd_H_inTheWayOf_0 rfl ?_
  refine xw_get fl_H_12 dd_H_inTheWayOf_1 hT rfl ?_
  refine xw_cl0 (ct_A_size' hA) (iv_H_inTheWayOf_4 hAc) ok_A_size rfl rfl rfl ?_ (fun _ _ _ q => by cases q.1)
  rintro v h sz ⟨hv, rfl, rfl⟩
  cases hv
  refine xw_iconst 3 dd_H_inTheWayOf_7 (by decide) ?_
  refine xw_icmp_lt 19 dd_H_inTheWayOf_8 (by decide) (fun hc => no ?_) (fun hc => ?_)
  · unfold sv_way
    rw [if_pos (Or.inl ?_)]
    have := (nI_ltI (a := xs.length) (b := 3) (by omega) (by decide)).mp hc
    omega
  · have h3 : ¬ gs.length < 3 := fun q => hc (nI_lt (a := xs.length) (b := 3) (by omega) (by decide))
    refine xw_aloadR_n dd_H_inTheWayOf_11 rfl ?_
    refine xw_iload_n dd_H_inTheWayOf_12 rfl ?_
    refine xw_cl0 (ct_H_gatheringOf H1) (iv_H_inTheWayOf_13 hT) ok_H_gatheringOf rfl rfl rfl ?_ (fun _ _ _ q => by cases q.2.2.choose_spec.1)
    rintro v h sz ⟨rfl, rfl, r, hv, hr⟩
    cases hv
    rcases hr with ⟨k1, rfl⟩ | ⟨g, y, i, k1, rfl, -⟩
    · refine xw_ifnullN 23 dd_H_inTheWayOf_16 (by decide) ?_
      refine xw_aloadR_n dd_H_inTheWayOf_23 rfl ?_
      refine xw_cl0 (ct_H_first H0) (iv_H_inTheWayOf_24 hT) ok_H_first rfl rfl rfl ?_ (fun _ _ _ q => by cases q.2.2.choose_spec.1)
      rintro v h sz ⟨rfl, rfl, r, hv, hr⟩
      cases hv
      refine xw_aret dd_H_inTheWayOf_27 rfl (Or.inl ⟨_, rfl⟩) ⟨rfl, rfl, r, rfl, ?_⟩
      have hw : sv_way gs n = gs.head? := by
        unfold sv_way
        rw [if_neg]
        rintro (q | q)
        · exact h3 q
        · unfold sv_gOf at q
          rw [k1] at q
          cases q
      rw [hw]
      exact hr
    · refine xw_ifnullR dd_H_inTheWayOf_16 ?_
      refine no ?_
      unfold sv_way
      rw [if_pos (Or.inr ?_)]
      unfold sv_gOf
      rw [k1]
      rfl
/-- the array of a list is the one that it was, or a new one -/
def er (sz ea cap ea' cap' : Nat) : Prop := (ea' = ea ∧ cap' = cap) ∨ sz ≤ ea'
theorem er.trans {sz sz1 ea cap ea1 cap1 ea2 cap2 : Nat} (H1 : er sz ea cap ea1 cap1) (H2 : er sz1 ea1 cap1 ea2 cap2) (hz : sz ≤ sz1) : er sz ea cap ea2 cap2 := by
  rcases H2 with ⟨rfl, rfl⟩ | q
  · exact H1
  · exact Or.inr (by omega)
/-- what a change of the gatherings keeps -/
abbrev gh_k (a ea cap : Nat) : Nat → xa_E → Prop := fun b e => b ≠ a ∧ (b ≠ ea ∨ cap = 0) ∧ ∀ q, e ≠ .inr (5, q)
theorem ct_H_gather {t a ea cap : Nat} {gs : List (Int32 × Int32)} {f r : Int32} (H : gh_at G h t a ea cap gs) (hn : gs.length ≤ 15) (hc : cap ≤ 22) : xa_T G mm_H_gather 7 2 24 [.ref t, .int f, .int r] h sz (fun o h' z => o = .returned (some (.int (sv_gather gs f r).1)) ∧ (∃ ea' cap', gh_at G h' t a ea' cap' (sv_gather gs f r).2 ∧ cap' ≤ 22 ∧ er sz ea cap ea' cap') ∧ sz ≤ z ∧ xk h h' (gh_k a ea cap)) := by
  obtain ⟨xs, H⟩ := H
  have H0 := H
  obtain ⟨k1, k2, k3, k4⟩ := gh_ne H
  obtain ⟨hT, hA, hE, hnd, hB⟩ := H
  obtain ⟨fs, hAc⟩ := hA.cell
  have hlen := hE.len
  have hcl := hA.len
  have tail : ∀ (h2 : xa_H) (z2 ea2 cap2 : Nat) (xs2 : List Nat) (gs2 : List (Int32 × Int32)) (i y : Nat) (r0 : Int32), gh_x G h2 t a ea2 cap2 xs2 gs2 → xs2[i]? = some y → gs2[i]? = some (f, r0) → cap2 ≤ 22 → er sz ea cap ea2 cap2 → sz ≤ z2 → xk h h2 (gh_k a ea cap) → sv_gather gs f r = (r0 ||| r, gs2.set i (f, r0 ||| r)) → xa_W G mm_H_gather 7 0 0 28 [some (.ref t), some (.int f), some (.int r), some (.ref y)] [] h2 z2 (fun o h' z => o = .returned (some (.int (sv_gather gs f r).1)) ∧ (∃ ea' cap', gh_at G h' t a ea' cap' (sv_gather gs f r).2 ∧ cap' ≤ 22 ∧ er sz ea cap ea' cap') ∧ sz ≤ z ∧ xk h h' (gh_k a ea cap)) := by
    intro h2 z2 ea2 cap2 xs2 gs2 i y r0 H2 hx hg hc2 hea hz2 hk hs
    obtain ⟨j1, j2, j3, j4⟩ := gh_ne H2
    obtain ⟨hT2, hA2, hE2, hnd2, hB2⟩ := H2
    have hi2 := (List.getElem?_eq_some_iff.mp hg).1
    have hy : h2 y = some (gt_d (f, r0)) := by
      obtain ⟨y', g', w1, w2, w3⟩ := hE2.at (i := i) hi2
      rw [hx] at w1
      rw [hg] at w2
      cases w1
      cases w2
      exact w3
    obtain ⟨n1, n2, n3⟩ := j4 y _ hy
    refine xw_aloadR_n dd_H_gather_28 rfl ?_
    refine xw_dup dd_H_gather_29 rfl ?_
    refine xw_get fl_H_51 dd_H_gather_30 hy rfl ?_
    refine xw_iload_n dd_H_gather_33 rfl ?_
    refine xw_ior dd_H_gather_34 ?_
    refine xw_putA fl_H_51 fz_H_51 (by decide) dd_H_gather_35 hy rfl (hB2 y (List.mem_of_getElem? hx)) rfl rfl (fun h3 m3 f3 => ?_)
    refine xw_aloadR_n dd_H_gather_38 rfl ?_
    refine xw_get fl_H_51 dd_H_gather_39 m3 rfl ?_
    refine xw_iret dd_H_gather_42 rfl ⟨by rw [hs], ⟨ea2, cap2, ⟨xs2, (f3 t (fun q => n3 q.symm)).trans hT2, ?_, ?_, hnd2, hB2⟩, hc2, hea⟩, hz2, fun b e hb hp => ?_⟩
    · obtain ⟨w1, w2, g, ⟨⟨mc, w3⟩, w4, w5, w6⟩, w7⟩ := hA2
      exact ⟨w1, w2, g, ⟨⟨mc, (f3 a (fun q => n1 q.symm)).trans w3⟩, (f3 ea2 (fun q => n2 q.symm)).trans w4, w5, w6⟩, w7⟩
    · rw [hs]
      exact hE2.upd hnd2 hx m3 f3
    · have hb2 := hk b e hb hp
      rw [f3 b (fun q => ?_)]
      · exact hb2
      · subst q
        rw [hy] at hb2
        exact hp.2.2 _ (Option.some.inj hb2).symm
  refine xt_o ok_H_gather rfl rfl ?_
  refine xw_dom (fun hd hBz => ?_)
  refine xw_aloadR_n dd_H_gather_0 rfl ?_
  refine xw_iload_n dd_H_gather_1 rfl ?_
  refine xw_cl0 (ct_H_gatheringOf H0) (iv_H_gather_2 hT) ok_H_gatheringOf rfl rfl rfl ?_ (fun _ _ _ q => by cases q.2.2.choose_spec.1)
  rintro v h sz ⟨rfl, rfl, r1, hv, hr⟩
  cases hv
  rcases hr with ⟨w1, rfl⟩ | ⟨g, y, i, w1, rfl, w2, w3, w4, w5⟩
  · refine xw_astore_n (r := none) dd_H_gather_5 (by decide) ?_
    refine xw_aload_n (r := none) dd_H_gather_6 rfl ?_
    refine xw_ifnonnullN dd_H_gather_7 ?_
    refine xw_less (kc' := 1 + 1) (ks' := 22 + 2) (by decide) (by decide) ?_
    refine xw_newA nw_H_30 dd_H_gather_10 (fun h1 m1 f1 => ?_)
    refine xw_dup dd_H_gather_13 rfl ?_
    refine xw_iload_n dd_H_gather_14 rfl ?_
    refine xw_cl0 (ct_G_init m1 hBz) iv_H_gather_15 ok_G_init rfl rfl rfl ?_ (fun _ _ _ q => by cases q.1)
    rintro v h2 z2 ⟨hv, rfl, m2, f2⟩
    cases hv
    have h12 : ∀ b, b ≠ sz → h2 b = h b := fun b hb => (f2 b hb).trans (f1 b hb)
    have hla := hd _ _ hAc
    have hlt := hd _ _ hT
    have hA2 : al_x G h2 a ea cap xs := by
      obtain ⟨u1, u2, g, ⟨⟨mc, u3⟩, u4, u5, u6⟩, u7⟩ := hA
      have := hd _ _ u4
      exact ⟨u1, u2, g, ⟨⟨mc, (h12 a (by omega)).trans u3⟩, (h12 ea (by omega)).trans u4, u5, u6⟩, u7⟩
    have hE2 : gt_l h2 xs gs := hE.keep (fun y g hy => h12 y (by have := hd _ _ hy; omega))
    refine xw_astoreR_n dd_H_gather_18 (by decide) ?_
    refine xw_aloadR_n dd_H_gather_19 rfl ?_
    refine xw_get fl_H_12 dd_H_gather_20 ((h12 t (by omega)).trans hT) rfl ?_
    refine xw_aloadR_n dd_H_gather_23 rfl ?_
    have hpay : al_pay xs.length cap ≤ 22 := by
      unfold al_pay
      split
      · unfold al_cap
        split <;> omega
      · omega
    refine xw_less (kc' := 0 + 1) (ks' := 0 + al_pay xs.length cap) (by omega) (by omega) ?_
    refine xw_cl (ct_A_add1 hA2 hE2.obj (by omega) m2 xo_5) (iv_H_gather_24 ((h12 a (by omega)).trans hAc)) ok_A_add1 rfl rfl rfl ?_ (fun _ _ _ q => by cases q.1)
    rintro v h3 z3 ⟨hv, ea', cap', g1, g2, g3⟩
    cases hv
    refine xw_pop dd_H_gather_27 rfl ?_
    have hlea : ea < sz := by
      obtain ⟨u1, u2, g, ⟨⟨mc, u3⟩, u4, u5, u6⟩, u7⟩ := hA
      exact hd _ _ u4
    have hk3 : ∀ b, b < sz → b ≠ a → (b ≠ ea ∨ cap = 0) → h3 b = h b := by
      intro b hb b1 b2
      rw [← h12 b (by omega)]
      rcases g3 with ⟨r1, r2, r3, r4⟩ | ⟨r1, r2, r3, r4, r5⟩
      · have := g1.len
        rw [List.length_append] at this
        simp at this
        exact g2 b b1 (b2.resolve_right (by omega)) (by omega)
      · by_cases q : b = ea
        · rw [q]; exact r5
        · exact g2 b b1 q (by omega)
    have hs3 : h3 sz = some (gt_d (f, 0)) := (g2 sz (by omega) (by omega) (by omega)).trans m2
    refine tail h3 z3 ea' cap' (xs ++ [sz]) (gs ++ [(f, 0)]) gs.length sz 0 ⟨?_, g1, ?_, ?_, ?_⟩ ?_ ?_ ?_ ?_ ?_ (fun b e hb hp => ?_) ?_
    · exact (g2 t k1 k2 (by omega)).trans ((h12 t (by omega)).trans hT)
    · refine gt_l.app (hE.keep (fun y g hy => ?_)) hs3
      have hly := hd _ _ hy
      exact (g2 y (k4 y g hy).1 (k4 y g hy).2.1 (by omega)).trans (h12 y (by omega))
    · rw [List.nodup_append]
      refine ⟨hnd, by simp, fun b hb c hc => ?_⟩
      obtain ⟨g, -, hy⟩ := hE.mem hb
      have := hd _ _ hy
      simp at hc
      omega
    · intro b hb
      rcases List.mem_append.mp hb with hb | hb
      · exact hB b hb
      · simp at hb; omega
    · rw [List.getElem?_append_right (by omega), hlen]; simp
    · rw [List.getElem?_append_right (by omega)]; simp
    · rcases g3 with ⟨r1, r2, r3, r4⟩ | ⟨r1, r2, r3, r4, r5⟩
      · omega
      · rw [r2]
        unfold al_cap
        split <;> omega
    · rcases g3 with ⟨r1, r2, r3, r4⟩ | ⟨r1, r2, r3, r4, r5⟩
      · exact Or.inl ⟨r1, r2⟩
      · exact Or.inr (by omega)
    · rcases g3 with ⟨r1, r2, r3, r4⟩ | ⟨r1, r2, r3, r4, r5⟩ <;> omega
    · rw [hk3 b (hd _ _ hb) hp.1 hp.2.1]
      exact hb
    · rw [sg_none w1]
      have : (0 : Int32) ||| r = r := by simp
      rw [this, List.set_append_right _ _ (by omega)]
      simp
  · have hgf : g.1 = f := by simpa using w5
    obtain ⟨gf, gr⟩ := g
    cases hgf
    refine xw_astore_n (r := some y) dd_H_gather_5 (by decide) ?_
    refine xw_aloadR_n dd_H_gather_6 rfl ?_
    refine xw_ifnonnullR 28 dd_H_gather_7 (by decide) ?_
    refine xw_less (kc' := 0) (ks' := 0) (by decide) (by decide) ?_
    exact tail h sz ea cap xs gs i y gr H0 w2 w3 hc (Or.inl ⟨rfl, rfl⟩) (Nat.le_refl _) xk.refl (sg_hit w4 w3 rfl)
theorem ct_H_take {t a ea cap : Nat} {gs : List (Int32 × Int32)} {n : Int32} (H : gh_at G h t a ea cap gs) : xa_T G mm_H_take 3 0 0 [.ref t, .int n] h sz (fun o h' z => o = .returned none ∧ z = sz ∧ gh_at G h' t a ea cap (sv_take gs n) ∧ ∀ b, b ≠ a → (b ≠ ea ∨ cap = 0) → h' b = h b) := by
  have H9 := H
  obtain ⟨xs, H⟩ := H
  have H0 := H
  obtain ⟨k1, k2, k3, k4⟩ := gh_ne H
  obtain ⟨hT, hA, hE, hnd, hB⟩ := H
  obtain ⟨fs, hAc⟩ := hA.cell
  have hlen := hE.len
  have hcl := hA.len
  have loop : ∀ (k i : Nat), i + k = gs.length → (gs.take i).find? (fun g => decide (g.1 = n)) = none → xa_W G mm_H_take 3 0 0 2 [some (.ref t), some (.int n), some (.int (nI i))] [] h sz (fun o h' z => o = .returned none ∧ z = sz ∧ gh_at G h' t a ea cap (sv_take gs n) ∧ ∀ b, b ≠ a → (b ≠ ea ∨ cap = 0) → h' b = h b) := by
    intro k
    induction k with
    | zero =>
      intro i hk hn
      refine xw_iload_n dd_H_take_2 rfl ?_
      refine xw_aloadR_n dd_H_take_3 rfl ?_
      refine xw_get fl_H_12 dd_H_take_4 hT rfl ?_
      refine xw_cl0 (ct_A_size' hA) (iv_H_take_7 hAc) ok_A_size rfl rfl rfl ?_ (fun _ _ _ q => by cases q.1)
      rintro v h sz ⟨hv, rfl, rfl⟩
      cases hv
      refine xw_icmp_ge 47 dd_H_take_10 (by decide) (fun hc => ?_) (fun hc => absurd (nI_le (by omega) (by omega)) hc)
      exact xw_vret dd_H_take_47 rfl ⟨rfl, rfl, by unfold sv_take; rw [sf_none (sf_end hn (by omega))]; exact H9, fun _ _ _ => rfl⟩
    | succ k ih =>
      intro i hk hn
      obtain ⟨y, e, hx, hes, he⟩ := hE.at (i := i) (by omega)
      refine xw_iload_n dd_H_take_2 rfl ?_
      refine xw_aloadR_n dd_H_take_3 rfl ?_
      refine xw_get fl_H_12 dd_H_take_4 hT rfl ?_
      refine xw_cl0 (ct_A_size' hA) (iv_H_take_7 hAc) ok_A_size rfl rfl rfl ?_ (fun _ _ _ q => by cases q.1)
      rintro v h sz ⟨hv, rfl, rfl⟩
      cases hv
      refine xw_icmp_ge 47 dd_H_take_10 (by decide) (fun hc => absurd hc (nI_ge (by omega) (by omega))) (fun hc => ?_)
      refine xw_aloadR_n dd_H_take_13 rfl ?_
      refine xw_get fl_H_12 dd_H_take_14 hT rfl ?_
      refine xw_iload_n dd_H_take_17 rfl ?_
      refine xw_cl0 (ct_A_get' hA hx) (iv_H_take_18 hAc) ok_A_get rfl rfl rfl ?_ (fun _ _ _ q => by cases q.1)
      rintro v h sz ⟨hv, rfl, rfl⟩
      cases hv
      refine xw_cast cc_H_30 ⟨_, _, rfl⟩ dd_H_take_21 he ?_
      refine xw_get fl_H_32 dd_H_take_24 he rfl ?_
      refine xw_iload_n dd_H_take_27 rfl ?_
      refine xw_icmp_ne 41 dd_H_take_28 (by decide) (fun hc2 => ?_) (fun hc2 => ?_)
      · refine xw_iinc dd_H_take_41 rfl (nI_1 i) (by decide) ?_
        refine xw_goto 2 dd_H_take_44 (by decide) ?_
        exact ih (i + 1) (by omega) (sf_step hn hes (decide_eq_false hc2))
      · refine xw_aloadR_n dd_H_take_31 rfl ?_
        refine xw_get fl_H_12 dd_H_take_32 hT rfl ?_
        refine xw_iload_n dd_H_take_35 rfl ?_
        refine xw_cl0 (ct_A_remove hA hE.obj hx) (iv_H_take_36 hAc) ok_A_remove rfl rfl rfl ?_ (fun _ _ _ q => by cases q.1)
        rintro v h' z1 ⟨hv, rfl, g1, g2⟩
        cases hv
        refine xw_pop dd_H_take_39 rfl ?_
        have hke : ∀ y e', h y = some (gt_d e') → h' y = h y := fun y e' hy => g2 y (k4 y e' hy).1 (k4 y e' hy).2.1
        refine xw_vret dd_H_take_40 rfl ⟨rfl, rfl, ⟨_, (g2 t k1 k2).trans hT, g1, ?_, hnd.sublist (List.eraseIdx_sublist ..), fun y hy => hB y ((List.eraseIdx_sublist ..).mem hy)⟩, fun b b1 b2 => g2 b b1 (b2.resolve_right (by omega))⟩
        unfold sv_take
        rw [← sf_erase hn hes (decide_eq_true hc2)]
        exact (hE.keep hke).del
  refine xt_o ok_H_take rfl rfl ?_
  refine xw_iconst 0 dd_H_take_0 (by decide) ?_
  refine xw_istore_n dd_H_take_1 (by decide) ?_
  exact loop gs.length 0 (by omega) rfl
theorem gh_clear {t a ea cap : Nat} {gs : List (Int32 × Int32)} {h' : xa_H} (H : gh_at G h t a ea cap gs) (g1 : al_x G h' a ea cap []) (g2 : ∀ b, b ≠ a → (b ≠ ea ∨ cap = 0) → h' b = h b) : gh_at G h' t a ea cap [] := by
  obtain ⟨xs, H⟩ := H
  obtain ⟨k1, k2, k3, k4⟩ := gh_ne H
  exact ⟨[], (g2 t k1 (Or.inl k2)).trans H.1, g1, rfl, List.nodup_nil, fun y hy => by simp at hy⟩
theorem ct_H_forget {t a ea cap : Nat} {gs : List (Int32 × Int32)} (H : gh_at G h t a ea cap gs) : xa_T G mm_H_forget 1 0 0 [.ref t] h sz (fun o h' z => o = .returned none ∧ z = sz ∧ gh_at G h' t a ea cap [] ∧ ∀ b, b ≠ a → (b ≠ ea ∨ cap = 0) → h' b = h b) := by
  have H9 := H
  obtain ⟨xs, hT, hA, hE, hnd, hB⟩ := H
  obtain ⟨fs, hAc⟩ := hA.cell
  refine xt_o ok_H_forget rfl rfl ?_
  refine xw_aloadR_n dd_H_forget_0 rfl ?_
  refine xw_get fl_H_12 dd_H_forget_1 hT rfl ?_
  refine xw_cl0 (ct_A_clear hA) (iv_H_forget_4 hAc) ok_A_clear rfl rfl rfl ?_ (fun _ _ _ q => by cases q.1)
  rintro v h' z1 ⟨hv, rfl, g1, g2⟩
  cases hv
  exact xw_vret dd_H_forget_7 rfl ⟨rfl, rfl, gh_clear H9 g1 g2, g2⟩
theorem sg_len (gs : List (Int32 × Int32)) (f r : Int32) : (sv_gather gs f r).2.length ≤ gs.length + 1 := by
  induction gs with
  | nil => exact Nat.le_refl _
  | cons g gs ih =>
    unfold sv_gather
    split
    · simp
    · simp; omega
theorem st_len (gs : List (Int32 × Int32)) (f : Int32) : (sv_take gs f).length ≤ gs.length := (List.eraseP_sublist ..).length_le
/-- the notes that the ring keeps -/
def rn_at (h : xa_H) (f : Nat → Option Nat) (hd : Nat) (rg : Nat → Nat → Int32) : Prop := ∀ s, rg_tl hd ≤ s → s < hd → ∃ y ey e r, f (s % 16) = some y ∧ h y = some (nt_c ey r) ∧ h ey = some (en_c e) ∧ rg (s % 16) = sv_item e r
/-- the gatherings that the kept notes leave open -/
def sv_rc (rg : Nat → Nat → Int32) (gs : List (Int32 × Int32)) (s : Nat) : List (Int32 × Int32) := if rg (s % 16) 5 &&& 64 = 0 then (sv_gather gs (rg (s % 16) 0) (rg (s % 16) 5)).2 else sv_take gs (rg (s % 16) 0)
def sv_rcs (rg : Nat → Nat → Int32) : Nat → Nat → List (Int32 × Int32) → List (Int32 × Int32)
  | 0, _, gs => gs
  | k + 1, s, gs => sv_rcs rg k (s + 1) (sv_rc rg gs s)
def sv_recall (hd : Nat) (rg : Nat → Nat → Int32) : List (Int32 × Int32) := sv_rcs rg (hd - rg_tl hd) (rg_tl hd) []
theorem gh_k_step {a ea cap ea1 cap1 : Nat} {h1 h2 : xa_H} (hd : xd_h h sz) (H1 : xk h h1 (gh_k a ea cap)) (he : er sz ea cap ea1 cap1) (H2 : xk h1 h2 (gh_k a ea1 cap1)) : xk h h2 (gh_k a ea cap) := by
  intro b e hb hp
  refine H2 b e (H1 b e hb hp) ⟨hp.1, ?_, hp.2.2⟩
  rcases he with ⟨rfl, rfl⟩ | q
  · exact hp.2.1
  · have := hd _ _ hb
    exact Or.inl (by omega)
theorem ct_H_recall {t a ea cap r c hd : Nat} {gs : List (Int32 × Int32)} {f : Nat → Option Nat} {rg : Nat → Nat → Int32} (H : gh_at G h t a ea cap gs) (hc : cap ≤ 22) (hR : rg_at h r c hd f) (hN : rn_at h f hd rg) (hce : c ≠ ea) : xa_T G mm_H_recall 8 32 384 [.ref t, .ref r] h sz (fun o h' z => o = .returned none ∧ (∃ ea' cap', gh_at G h' t a ea' cap' (sv_recall hd rg) ∧ cap' ≤ 22 ∧ er sz ea cap ea' cap') ∧ sz ≤ z ∧ xk h h' (gh_k a ea cap)) := by
  have H9 := H
  obtain ⟨xs, hT, hA, hE, hnd, hB⟩ := id H
  obtain ⟨fs, hAc⟩ := hA.cell
  have htl : 1 ≤ rg_tl hd ∧ rg_tl hd ≤ hd ∧ hd - rg_tl hd ≤ 16 ∧ hd < 1000000 := by
    have := hR.2.2
    unfold rg_tl
    split <;> omega
  refine xt_o ok_H_recall rfl rfl ?_
  refine xw_dom (fun hdm hBz => ?_)
  have loop : ∀ (k s : Nat) (h1 : xa_H) (z1 ea1 cap1 : Nat) (gs1 : List (Int32 × Int32)) (o : Option Value), s + k = hd → rg_tl hd ≤ s → gs1.length + k ≤ 16 → gh_at G h1 t a ea1 cap1 gs1 → cap1 ≤ 22 → er sz ea cap ea1 cap1 → sz ≤ z1 → xk h h1 (gh_k a ea cap) → sv_rcs rg k s gs1 = sv_recall hd rg → xa_W G mm_H_recall 8 (2 * k) (24 * k) 12 [some (.ref t), some (.ref r), some (.int (nI s)), o] [] h1 z1 (fun o h' z => o = .returned none ∧ (∃ ea' cap', gh_at G h' t a ea' cap' (sv_recall hd rg) ∧ cap' ≤ 22 ∧ er sz ea cap ea' cap') ∧ sz ≤ z ∧ xk h h' (gh_k a ea cap)) := by
    intro k
    induction k with
    | zero =>
      intro s h1 z1 ea1 cap1 gs1 o hk hs hl Hg hc1 he1 hz1 hx1 hq
      have hR1 : rg_at h1 r c hd f := ⟨hx1 _ _ hR.1 ⟨fun q => ?_, ?_, fun q w => by cases w⟩, hx1 _ _ hR.2.1 ⟨fun q => ?_, Or.inl hce, fun q w => by cases w⟩, hR.2.2⟩
      · refine xw_iload_n dd_H_recall_12 rfl ?_
        refine xw_aloadR_n dd_H_recall_13 rfl ?_
        refine xw_cl0 (ct_R_nextSerial hR1) (iv_H_recall_14 hR1.1) ok_R_nextSerial rfl rfl rfl ?_ (fun _ _ _ q => by cases q.1)
        rintro v h1 z1 ⟨hv, rfl, rfl⟩
        cases hv
        refine xw_icmp_ge 78 dd_H_recall_17 (by decide) (fun hc => ?_) (fun hc => absurd (nI_le (by omega) (by omega)) hc)
        refine xw_vret dd_H_recall_78 rfl ⟨rfl, ⟨ea1, cap1, ?_, hc1, he1⟩, hz1, hx1⟩
        rw [← hq]
        exact Hg
      · have w := hR.1
        rw [q, hAc] at w
        cases w
      · refine Or.inl (fun q => ?_)
        obtain ⟨-, -, g, ⟨-, w4, -⟩, -⟩ := hA
        rw [← q, hR.1] at w4
        cases w4
      · have w := hR.2.1
        rw [q, hAc] at w
        cases w
    | succ k ih =>
      intro s h1 z1 ea1 cap1 gs1 o hk hs hl Hg hc1 he1 hz1 hx1 hq
      have hR1 : rg_at h1 r c hd f := ⟨hx1 _ _ hR.1 ⟨fun q => ?_, ?_, fun q w => by cases w⟩, hx1 _ _ hR.2.1 ⟨fun q => ?_, Or.inl hce, fun q w => by cases w⟩, hR.2.2⟩
      · obtain ⟨y, ey, e, rr, w1, w2, w3, w4⟩ := hN s hs (by omega)
        have hne : ∀ b q, h b = some q → (∀ t n f, q ≠ xr_q t n f) → (∀ w, q ≠ .inr (8, w)) → b ≠ a ∧ (b ≠ ea ∨ cap = 0) := by
          intro b q hb n1 n2
          refine ⟨fun w => ?_, Or.inl (fun w => ?_)⟩
          · rw [w, hAc] at hb
            exact n2 _ (Option.some.inj hb).symm
          · obtain ⟨-, -, g, ⟨-, u4, -⟩, -⟩ := hA
            rw [w, u4] at hb
            exact n1 _ _ _ (Option.some.inj hb).symm
        have w2' : h1 y = some (nt_c ey rr) := hx1 _ _ w2 ⟨(hne _ _ w2 (fun _ _ _ w => by cases w) (fun _ w => by cases w)).1, (hne _ _ w2 (fun _ _ _ w => by cases w) (fun _ w => by cases w)).2, fun _ w => by cases w⟩
        have w3' : h1 ey = some (en_c e) := hx1 _ _ w3 ⟨(hne _ _ w3 (fun _ _ _ w => by cases w) (fun _ w => by cases w)).1, (hne _ _ w3 (fun _ _ _ w => by cases w) (fun _ w => by cases w)).2, fun _ w => by cases w⟩
        refine xw_iload_n dd_H_recall_12 rfl ?_
        refine xw_aloadR_n dd_H_recall_13 rfl ?_
        refine xw_cl0 (ct_R_nextSerial hR1) (iv_H_recall_14 hR1.1) ok_R_nextSerial rfl rfl rfl ?_ (fun _ _ _ q => by cases q.1)
        rintro v h1 z1 ⟨hv, rfl, rfl⟩
        cases hv
        refine xw_icmp_ge 78 dd_H_recall_17 (by decide) (fun hc => absurd hc (nI_ge (by omega) (by omega))) (fun hc => ?_)
        refine xw_aloadR_n dd_H_recall_20 rfl ?_
        refine xw_iload_n dd_H_recall_21 rfl ?_
        refine xw_cl0 (ct_R_noteAt hR1) (iv_H_recall_22 hR1.1) ok_R_noteAt rfl rfl rfl ?_ (fun _ _ _ q => by cases q.1)
        rintro v h1 z1 ⟨hv, rfl, rfl⟩
        cases hv
        rw [if_pos ⟨nI_le hs (by omega), nI_lt (by omega) (by omega)⟩, nI_clamp (by omega), w1]
        refine xw_astore_n (r := some y) dd_H_recall_25 (by decide) ?_
        refine xw_aloadR_n dd_H_recall_26 rfl ?_
        refine xw_ifnonnullR 33 dd_H_recall_27 (by decide) ?_
        refine xw_aloadR_n dd_H_recall_33 rfl ?_
        refine xw_bipush 64 dd_H_recall_34 (by decide) ?_
        refine xw_cl0 (ct_N_hasAny w2') (iv_H_recall_36 w2') ok_N_hasAny rfl rfl rfl ?_ (fun _ _ _ q => by cases q.1)
        rintro v h1 z1 ⟨hv, rfl, rfl⟩
        cases hv
        have e0 : rg (s % 16) 0 = e.1 := by rw [w4]; rfl
        have e5 : rg (s % 16) 5 = rr := by rw [w4]; rfl
        have next : ∀ (h2 : xa_H) (z2 ea2 cap2 : Nat), gh_at G h2 t a ea2 cap2 (sv_rc rg gs1 s) → cap2 ≤ 22 → er z1 ea1 cap1 ea2 cap2 → z1 ≤ z2 → xk h1 h2 (gh_k a ea1 cap1) → (sv_rc rg gs1 s).length ≤ gs1.length + 1 → xa_W G mm_H_recall 8 (2 * k) (24 * k) 72 [some (.ref t), some (.ref r), some (.int (nI s)), some (.ref y)] [] h2 z2 (fun o h' z => o = .returned none ∧ (∃ ea' cap', gh_at G h' t a ea' cap' (sv_recall hd rg) ∧ cap' ≤ 22 ∧ er sz ea cap ea' cap') ∧ sz ≤ z ∧ xk h h' (gh_k a ea cap)) := by
          intro h2 z2 ea2 cap2 q1 q2 q3 q4 q5 q6
          refine xw_iinc dd_H_recall_72 rfl (nI_1 s) (by decide) ?_
          refine xw_goto 12 dd_H_recall_75 (by decide) ?_
          exact ih (s + 1) h2 z2 ea2 cap2 _ _ (by omega) (by omega) (by omega) q1 q2 (he1.trans q3 hz1) (by omega) (gh_k_step hdm hx1 he1 q5) hq
        have hT1 : h1 t = some (.inr (6, [.ref a])) := by
          obtain ⟨_, q, -⟩ := Hg
          exact q
        by_cases hz : rr &&& 64 = 0
        · rw [if_pos hz]
          refine xw_if_eq 56 dd_H_recall_39 (by decide) (fun hc => ?_) (fun hc => absurd rfl hc)
          refine xw_aloadR_n dd_H_recall_56 rfl ?_
          refine xw_aloadR_n dd_H_recall_57 rfl ?_
          refine xw_get fl_H_78 dd_H_recall_58 w2' rfl ?_
          refine xw_get fl_H_82 dd_H_recall_61 w3' rfl ?_
          refine xw_aloadR_n dd_H_recall_64 rfl ?_
          refine xw_get fl_H_90 dd_H_recall_65 w2' rfl ?_
          refine xw_less (kc' := 2 * k + 2) (ks' := 24 * k + 24) (by omega) (by omega) ?_
          refine xw_cl (ct_H_gather Hg (by omega) hc1) (iv_H_recall_68 hT1) ok_H_gather rfl rfl rfl ?_ (fun _ _ _ q => by cases q.1)
          rintro v h2 z2 ⟨hv, ⟨ea2, cap2, q1, q2, q3⟩, q4, q5⟩
          cases hv
          refine xw_pop dd_H_recall_71 rfl ?_
          have hrc : sv_rc rg gs1 s = (sv_gather gs1 e.1 rr).2 := by
            unfold sv_rc
            rw [e5, e0, if_pos hz]
          exact next h2 z2 ea2 cap2 (by rw [hrc]; exact q1) q2 q3 q4 q5 (by rw [hrc]; exact sg_len ..)
        · rw [if_neg hz]
          refine xw_if_eq 56 dd_H_recall_39 (by decide) (fun hc => absurd hc (by decide)) (fun hc => ?_)
          refine xw_aloadR_n dd_H_recall_42 rfl ?_
          refine xw_aloadR_n dd_H_recall_43 rfl ?_
          refine xw_get fl_H_78 dd_H_recall_44 w2' rfl ?_
          refine xw_get fl_H_82 dd_H_recall_47 w3' rfl ?_
          refine xw_cl0 (ct_H_take Hg) (iv_H_recall_50 hT1) ok_H_take rfl rfl rfl ?_ (fun _ _ _ q => by cases q.1)
          rintro v h2 z2 ⟨hv, rfl, q1, q2⟩
          cases hv
          refine xw_goto 72 dd_H_recall_53 (by decide) ?_
          have hrc : sv_rc rg gs1 s = sv_take gs1 e.1 := by
            unfold sv_rc
            rw [e5, e0, if_neg hz]
          refine xw_less (kc' := 2 * k) (ks' := 24 * k) (by omega) (by omega) ?_
          exact next h2 z2 ea1 cap1 (by rw [hrc]; exact q1) hc1 (Or.inl ⟨rfl, rfl⟩) (Nat.le_refl _) (fun b e hb hp => (q2 b hp.1 hp.2.1).trans hb) (by rw [hrc]; have := st_len gs1 e.1; omega)
      · have w := hR.1
        rw [q, hAc] at w
        cases w
      · refine Or.inl (fun q => ?_)
        obtain ⟨-, -, g, ⟨-, w4, -⟩, -⟩ := hA
        rw [← q, hR.1] at w4
        cases w4
      · have w := hR.2.1
        rw [q, hAc] at w
        cases w
  refine xw_aloadR_n dd_H_recall_0 rfl ?_
  refine xw_get fl_H_12 dd_H_recall_1 hT rfl ?_
  refine xw_cl0 (ct_A_clear hA) (iv_H_recall_4 hAc) ok_A_clear rfl rfl rfl ?_ (fun _ _ _ q => by cases q.1)
  rintro v h1 z1 ⟨hv, rfl, g1, g2⟩
  cases hv
  have hx1 : xk h h1 (gh_k a ea cap) := fun b e hb hp => (g2 b hp.1 hp.2.1).trans hb
  have hR1 : rg_at h1 r c hd f := ⟨hx1 _ _ hR.1 ⟨fun q => ?_, ?_, fun q w => by cases w⟩, hx1 _ _ hR.2.1 ⟨fun q => ?_, Or.inl hce, fun q w => by cases w⟩, hR.2.2⟩
  · refine xw_aloadR_n dd_H_recall_7 rfl ?_
    refine xw_cl0 (ct_R_leastKept hR1) (iv_H_recall_8 hR1.1) ok_R_leastKept rfl rfl rfl ?_ (fun _ _ _ q => by cases q.1)
    rintro v h1 z1 ⟨hv, rfl, rfl⟩
    cases hv
    refine xw_istore_n dd_H_recall_11 (by decide) ?_
    refine xw_less (kc' := 2 * (hd - rg_tl hd)) (ks' := 24 * (hd - rg_tl hd)) (by omega) (by omega) ?_
    exact loop (hd - rg_tl hd) (rg_tl hd) h1 z1 ea cap [] none (by omega) (Nat.le_refl _) (by simp; omega) (gh_clear H9 g1 g2) hc (Or.inl ⟨rfl, rfl⟩) (Nat.le_refl _) hx1 rfl
  · have w := hR.1
    rw [q, hAc] at w
    cases w
  · refine Or.inl (fun q => ?_)
    obtain ⟨-, -, g, ⟨-, w4, -⟩, -⟩ := hA
    rw [← q, hR.1] at w4
    cases w4
  · have w := hR.2.1
    rw [q, hAc] at w
    cases w
end GH
end
section
/-! names, by program (wip/whole/mknames.py 22.names.lean.txt S,V) -/
theorem iw_1 : Cond.initialized "NotedVolume" ∈ xv_T := xv_in (List.mem_append_right _ (List.mem_of_getElem? (i := 1) (by decide +kernel))) (by decide +kernel)
theorem iw_8 : Cond.initialized "NotedVolume$Subscriber" ∈ xv_T := xv_in (List.mem_append_right _ (List.mem_of_getElem? (i := 8) (by decide +kernel))) (by decide +kernel)
theorem iw_37 : Cond.code ⟨"NotedVolume", "<init>", "()V"⟩ prog_1_method_1_code 2 none ∈ xv_T := xv_in (List.mem_append_right _ (List.mem_of_getElem? (i := 37) (by decide +kernel))) (by decide +kernel)
theorem iw_38 : Cond.methodLink "NotedVolume" 1 ⟨"java/lang/Object", "<init>", "()V"⟩ ∈ xv_T := xv_in (List.mem_append_right _ (List.mem_of_getElem? (i := 38) (by decide +kernel))) (by decide +kernel)
theorem iw_41 : Cond.classLink "NotedVolume" 7 "NotedVolume$FileTable" ∈ xv_T := xv_in (List.mem_append_right _ (List.mem_of_getElem? (i := 41) (by decide +kernel))) (by decide +kernel)
theorem iw_42 : Cond.instantiable "NotedVolume$FileTable" 2 ∈ xv_T := xv_in (List.mem_append_right _ (List.mem_of_getElem? (i := 42) (by decide +kernel))) (by decide +kernel)
theorem iw_43 : Cond.methodLink "NotedVolume" 11 ⟨"NotedVolume$FileTable", "<init>", "(I)V"⟩ ∈ xv_T := xv_in (List.mem_append_right _ (List.mem_of_getElem? (i := 43) (by decide +kernel))) (by decide +kernel)
theorem iw_44 : Cond.instanceMethod ⟨"NotedVolume$FileTable", "<init>", "(I)V"⟩ ∈ xv_T := xv_in (List.mem_append_right _ (List.mem_of_getElem? (i := 44) (by decide +kernel))) (by decide +kernel)
theorem iw_80 : Cond.classLink "NotedVolume" 18 "NotedVolume$Ring" ∈ xv_T := xv_in (List.mem_append_right _ (List.mem_of_getElem? (i := 80) (by decide +kernel))) (by decide +kernel)
theorem iw_81 : Cond.instantiable "NotedVolume$Ring" 2 ∈ xv_T := xv_in (List.mem_append_right _ (List.mem_of_getElem? (i := 81) (by decide +kernel))) (by decide +kernel)
theorem iw_82 : Cond.methodLink "NotedVolume" 20 ⟨"NotedVolume$Ring", "<init>", "()V"⟩ ∈ xv_T := xv_in (List.mem_append_right _ (List.mem_of_getElem? (i := 82) (by decide +kernel))) (by decide +kernel)
theorem iw_83 : Cond.instanceMethod ⟨"NotedVolume$Ring", "<init>", "()V"⟩ ∈ xv_T := xv_in (List.mem_append_right _ (List.mem_of_getElem? (i := 83) (by decide +kernel))) (by decide +kernel)
theorem iw_95 : Cond.classLink "NotedVolume" 25 "NotedVolume$Gatherings" ∈ xv_T := xv_in (List.mem_append_right _ (List.mem_of_getElem? (i := 95) (by decide +kernel))) (by decide +kernel)
theorem iw_96 : Cond.instantiable "NotedVolume$Gatherings" 1 ∈ xv_T := xv_in (List.mem_append_right _ (List.mem_of_getElem? (i := 96) (by decide +kernel))) (by decide +kernel)
theorem iw_97 : Cond.methodLink "NotedVolume" 27 ⟨"NotedVolume$Gatherings", "<init>", "()V"⟩ ∈ xv_T := xv_in (List.mem_append_right _ (List.mem_of_getElem? (i := 97) (by decide +kernel))) (by decide +kernel)
theorem iw_98 : Cond.instanceMethod ⟨"NotedVolume$Gatherings", "<init>", "()V"⟩ ∈ xv_T := xv_in (List.mem_append_right _ (List.mem_of_getElem? (i := 98) (by decide +kernel))) (by decide +kernel)
theorem iw_107 : Cond.classLink "NotedVolume" 32 "NotedVolume$Subscriber" ∈ xv_T := xv_in (List.mem_append_right _ (List.mem_of_getElem? (i := 107) (by decide +kernel))) (by decide +kernel)
theorem iw_109 : Cond.instantiable "NotedVolume$Subscriber" 6 ∈ xv_T := xv_in (List.mem_append_right _ (List.mem_of_getElem? (i := 109) (by decide +kernel))) (by decide +kernel)
theorem iw_110 : Cond.methodLink "NotedVolume" 38 ⟨"NotedVolume$Subscriber", "<init>", "()V"⟩ ∈ xv_T := xv_in (List.mem_append_right _ (List.mem_of_getElem? (i := 110) (by decide +kernel))) (by decide +kernel)
theorem iw_111 : Cond.instanceMethod ⟨"NotedVolume$Subscriber", "<init>", "()V"⟩ ∈ xv_T := xv_in (List.mem_append_right _ (List.mem_of_getElem? (i := 111) (by decide +kernel))) (by decide +kernel)
theorem iw_112 : Cond.code ⟨"NotedVolume$Subscriber", "<init>", "()V"⟩ prog_8_method_1_code 1 none ∈ xv_T := xv_in (List.mem_append_right _ (List.mem_of_getElem? (i := 112) (by decide +kernel))) (by decide +kernel)
theorem iw_113 : Cond.methodLink "NotedVolume$Subscriber" 3 ⟨"java/lang/Object", "<init>", "()V"⟩ ∈ xv_T := xv_in (List.mem_append_right _ (List.mem_of_getElem? (i := 113) (by decide +kernel))) (by decide +kernel)
theorem iw_114 : Cond.classLink "NotedVolume$Subscriber" 9 "NotedVolume$FileTable" ∈ xv_T := xv_in (List.mem_append_right _ (List.mem_of_getElem? (i := 114) (by decide +kernel))) (by decide +kernel)
theorem iw_115 : Cond.methodLink "NotedVolume$Subscriber" 11 ⟨"NotedVolume$FileTable", "<init>", "(I)V"⟩ ∈ xv_T := xv_in (List.mem_append_right _ (List.mem_of_getElem? (i := 115) (by decide +kernel))) (by decide +kernel)
theorem iw_116 : Cond.fieldLink "NotedVolume$Subscriber" 14 "NotedVolume$Subscriber" "copy" "LNotedVolume$FileTable;" ∈ xv_T := xv_in (List.mem_append_right _ (List.mem_of_getElem? (i := 116) (by decide +kernel))) (by decide +kernel)
theorem iw_117 : Cond.fieldLink "NotedVolume" 216 "NotedVolume$Subscriber" "copy" "LNotedVolume$FileTable;" ∈ xv_T := xv_in (List.mem_append_right _ (List.mem_of_getElem? (i := 117) (by decide +kernel))) (by decide +kernel)
theorem iw_118 : Cond.fieldLink "NotedVolume$Subscriber" 20 "NotedVolume$Subscriber" "pageNumbers" "[I" ∈ xv_T := xv_in (List.mem_append_right _ (List.mem_of_getElem? (i := 118) (by decide +kernel))) (by decide +kernel)
theorem iw_119 : Cond.fieldLink "NotedVolume" 206 "NotedVolume$Subscriber" "pageNumbers" "[I" ∈ xv_T := xv_in (List.mem_append_right _ (List.mem_of_getElem? (i := 119) (by decide +kernel))) (by decide +kernel)
theorem iw_120 : Cond.fieldLink "NotedVolume$Subscriber" 24 "NotedVolume$Subscriber" "cursor" "I" ∈ xv_T := xv_in (List.mem_append_right _ (List.mem_of_getElem? (i := 120) (by decide +kernel))) (by decide +kernel)
theorem iw_121 : Cond.fieldLink "NotedVolume" 183 "NotedVolume$Subscriber" "cursor" "I" ∈ xv_T := xv_in (List.mem_append_right _ (List.mem_of_getElem? (i := 121) (by decide +kernel))) (by decide +kernel)
theorem iw_122 : Cond.fieldLink "NotedVolume$Subscriber" 28 "NotedVolume$Subscriber" "mask" "I" ∈ xv_T := xv_in (List.mem_append_right _ (List.mem_of_getElem? (i := 122) (by decide +kernel))) (by decide +kernel)
theorem iw_123 : Cond.fieldLink "NotedVolume" 186 "NotedVolume$Subscriber" "mask" "I" ∈ xv_T := xv_in (List.mem_append_right _ (List.mem_of_getElem? (i := 123) (by decide +kernel))) (by decide +kernel)
theorem iw_124 : Cond.fieldLink "NotedVolume$Subscriber" 37 "NotedVolume$Subscriber" "listing" "Z" ∈ xv_T := xv_in (List.mem_append_right _ (List.mem_of_getElem? (i := 124) (by decide +kernel))) (by decide +kernel)
theorem iw_125 : Cond.fieldLink "NotedVolume" 197 "NotedVolume$Subscriber" "listing" "Z" ∈ xv_T := xv_in (List.mem_append_right _ (List.mem_of_getElem? (i := 125) (by decide +kernel))) (by decide +kernel)
theorem iw_126 : Cond.fieldLink "NotedVolume$Subscriber" 54 "NotedVolume$Subscriber" "greatestShown" "I" ∈ xv_T := xv_in (List.mem_append_right _ (List.mem_of_getElem? (i := 126) (by decide +kernel))) (by decide +kernel)
theorem iw_140 : Cond.arrayClass .int ∈ xv_T := xv_in (List.mem_append_right _ (List.mem_of_getElem? (i := 140) (by decide +kernel))) (by decide +kernel)
theorem iw_141 : Cond.fieldLink "NotedVolume" 14 "NotedVolume" "files" "LNotedVolume$FileTable;" ∈ xv_T := xv_in (List.mem_append_right _ (List.mem_of_getElem? (i := 141) (by decide +kernel))) (by decide +kernel)
theorem iw_142 : Cond.fieldLink "NotedVolume" 21 "NotedVolume" "ring" "LNotedVolume$Ring;" ∈ xv_T := xv_in (List.mem_append_right _ (List.mem_of_getElem? (i := 142) (by decide +kernel))) (by decide +kernel)
theorem iw_143 : Cond.fieldLink "NotedVolume" 28 "NotedVolume" "gatherings" "LNotedVolume$Gatherings;" ∈ xv_T := xv_in (List.mem_append_right _ (List.mem_of_getElem? (i := 143) (by decide +kernel))) (by decide +kernel)
theorem iw_144 : Cond.fieldLink "NotedVolume" 34 "NotedVolume" "subscribers" "[LNotedVolume$Subscriber;" ∈ xv_T := xv_in (List.mem_append_right _ (List.mem_of_getElem? (i := 144) (by decide +kernel))) (by decide +kernel)
theorem iw_145 : Cond.fieldLink "NotedVolume" 39 "NotedVolume" "nextNumber" "I" ∈ xv_T := xv_in (List.mem_append_right _ (List.mem_of_getElem? (i := 145) (by decide +kernel))) (by decide +kernel)
theorem iw_146 : Cond.fieldLink "NotedVolume" 43 "NotedVolume" "powered" "Z" ∈ xv_T := xv_in (List.mem_append_right _ (List.mem_of_getElem? (i := 146) (by decide +kernel))) (by decide +kernel)
theorem iw_147 : Cond.fieldLink "NotedVolume" 47 "NotedVolume" "writesLeft" "I" ∈ xv_T := xv_in (List.mem_append_right _ (List.mem_of_getElem? (i := 147) (by decide +kernel))) (by decide +kernel)
theorem iw_166 : Cond.code ⟨"NotedVolume", "open", "()I"⟩ prog_1_method_7_code 1 (some .int) ∈ xv_T := xv_in (List.mem_append_right _ (List.mem_of_getElem? (i := 166) (by decide +kernel))) (by decide +kernel)
theorem iw_167 : Cond.methodLink "NotedVolume" 142 ⟨"NotedVolume$Gatherings", "count", "()I"⟩ ∈ xv_T := xv_in (List.mem_append_right _ (List.mem_of_getElem? (i := 167) (by decide +kernel))) (by decide +kernel)
theorem iw_168 : Cond.instanceMethod ⟨"NotedVolume$Gatherings", "count", "()I"⟩ ∈ xv_T := xv_in (List.mem_append_right _ (List.mem_of_getElem? (i := 168) (by decide +kernel))) (by decide +kernel)
theorem iw_169 : Cond.selects "NotedVolume$Gatherings" ⟨"NotedVolume$Gatherings", "count", "()I"⟩ ⟨"NotedVolume$Gatherings", "count", "()I"⟩ ∈ xv_T := xv_in (List.mem_append_right _ (List.mem_of_getElem? (i := 169) (by decide +kernel))) (by decide +kernel)
theorem iw_178 : Cond.code ⟨"NotedVolume", "find", "(II)I"⟩ prog_1_method_9_code 4 (some .int) ∈ xv_T := xv_in (List.mem_append_right _ (List.mem_of_getElem? (i := 178) (by decide +kernel))) (by decide +kernel)
theorem iw_179 : Cond.methodLink "NotedVolume" 151 ⟨"NotedVolume$FileTable", "entryNamed", "(II)LNotedVolume$Entry;"⟩ ∈ xv_T := xv_in (List.mem_append_right _ (List.mem_of_getElem? (i := 179) (by decide +kernel))) (by decide +kernel)
theorem iw_180 : Cond.instanceMethod ⟨"NotedVolume$FileTable", "entryNamed", "(II)LNotedVolume$Entry;"⟩ ∈ xv_T := xv_in (List.mem_append_right _ (List.mem_of_getElem? (i := 180) (by decide +kernel))) (by decide +kernel)
theorem iw_181 : Cond.selects "NotedVolume$FileTable" ⟨"NotedVolume$FileTable", "entryNamed", "(II)LNotedVolume$Entry;"⟩ ⟨"NotedVolume$FileTable", "entryNamed", "(II)LNotedVolume$Entry;"⟩ ∈ xv_T := xv_in (List.mem_append_right _ (List.mem_of_getElem? (i := 181) (by decide +kernel))) (by decide +kernel)
theorem iw_202 : Cond.code ⟨"NotedVolume", "live", "()I"⟩ prog_1_method_10_code 1 (some .int) ∈ xv_T := xv_in (List.mem_append_right _ (List.mem_of_getElem? (i := 202) (by decide +kernel))) (by decide +kernel)
theorem iw_203 : Cond.methodLink "NotedVolume" 53 ⟨"NotedVolume$FileTable", "count", "()I"⟩ ∈ xv_T := xv_in (List.mem_append_right _ (List.mem_of_getElem? (i := 203) (by decide +kernel))) (by decide +kernel)
theorem iw_204 : Cond.instanceMethod ⟨"NotedVolume$FileTable", "count", "()I"⟩ ∈ xv_T := xv_in (List.mem_append_right _ (List.mem_of_getElem? (i := 204) (by decide +kernel))) (by decide +kernel)
theorem iw_205 : Cond.selects "NotedVolume$FileTable" ⟨"NotedVolume$FileTable", "count", "()I"⟩ ⟨"NotedVolume$FileTable", "count", "()I"⟩ ∈ xv_T := xv_in (List.mem_append_right _ (List.mem_of_getElem? (i := 205) (by decide +kernel))) (by decide +kernel)
theorem iw_210 : Cond.code ⟨"NotedVolume", "tail", "()I"⟩ prog_1_method_11_code 1 (some .int) ∈ xv_T := xv_in (List.mem_append_right _ (List.mem_of_getElem? (i := 210) (by decide +kernel))) (by decide +kernel)
theorem iw_211 : Cond.methodLink "NotedVolume" 155 ⟨"NotedVolume$Ring", "leastKept", "()I"⟩ ∈ xv_T := xv_in (List.mem_append_right _ (List.mem_of_getElem? (i := 211) (by decide +kernel))) (by decide +kernel)
theorem iw_218 : Cond.code ⟨"NotedVolume", "head", "()I"⟩ prog_1_method_12_code 1 (some .int) ∈ xv_T := xv_in (List.mem_append_right _ (List.mem_of_getElem? (i := 218) (by decide +kernel))) (by decide +kernel)
theorem iw_219 : Cond.methodLink "NotedVolume" 158 ⟨"NotedVolume$Ring", "nextSerial", "()I"⟩ ∈ xv_T := xv_in (List.mem_append_right _ (List.mem_of_getElem? (i := 219) (by decide +kernel))) (by decide +kernel)
theorem iw_226 : Cond.code ⟨"NotedVolume", "start", "()I"⟩ prog_1_method_24_code 4 (some .int) ∈ xv_T := xv_in (List.mem_append_right _ (List.mem_of_getElem? (i := 226) (by decide +kernel))) (by decide +kernel)
theorem iw_227 : Cond.methodLink "NotedVolume" 230 ⟨"NotedVolume$Gatherings", "recall", "(LNotedVolume$Ring;)V"⟩ ∈ xv_T := xv_in (List.mem_append_right _ (List.mem_of_getElem? (i := 227) (by decide +kernel))) (by decide +kernel)
theorem iw_228 : Cond.instanceMethod ⟨"NotedVolume$Gatherings", "recall", "(LNotedVolume$Ring;)V"⟩ ∈ xv_T := xv_in (List.mem_append_right _ (List.mem_of_getElem? (i := 228) (by decide +kernel))) (by decide +kernel)
theorem iw_229 : Cond.selects "NotedVolume$Gatherings" ⟨"NotedVolume$Gatherings", "recall", "(LNotedVolume$Ring;)V"⟩ ⟨"NotedVolume$Gatherings", "recall", "(LNotedVolume$Ring;)V"⟩ ∈ xv_T := xv_in (List.mem_append_right _ (List.mem_of_getElem? (i := 229) (by decide +kernel))) (by decide +kernel)
theorem iw_278 : Cond.fieldLink "NotedVolume" 276 "NotedVolume$Gathering" "file" "I" ∈ xv_T := xv_in (List.mem_append_right _ (List.mem_of_getElem? (i := 278) (by decide +kernel))) (by decide +kernel)
theorem iw_280 : Cond.fieldLink "NotedVolume" 281 "NotedVolume$Gathering" "reasons" "I" ∈ xv_T := xv_in (List.mem_append_right _ (List.mem_of_getElem? (i := 280) (by decide +kernel))) (by decide +kernel)
theorem iw_348 : Cond.methodLink "NotedVolume" 233 ⟨"NotedVolume$Gatherings", "first", "()LNotedVolume$Gathering;"⟩ ∈ xv_T := xv_in (List.mem_append_right _ (List.mem_of_getElem? (i := 348) (by decide +kernel))) (by decide +kernel)
theorem iw_356 : Cond.methodLink "NotedVolume" 237 ⟨"NotedVolume", "endGathering", "(LNotedVolume$Gathering;)V"⟩ ∈ xv_T := xv_in (List.mem_append_right _ (List.mem_of_getElem? (i := 356) (by decide +kernel))) (by decide +kernel)
theorem iw_358 : Cond.instanceMethod ⟨"NotedVolume", "endGathering", "(LNotedVolume$Gathering;)V"⟩ ∈ xv_T := xv_in (List.mem_append_right _ (List.mem_of_getElem? (i := 358) (by decide +kernel))) (by decide +kernel)
theorem iw_359 : Cond.code ⟨"NotedVolume", "endGathering", "(LNotedVolume$Gathering;)V"⟩ prog_1_method_38_code 4 none ∈ xv_T := xv_in (List.mem_append_right _ (List.mem_of_getElem? (i := 359) (by decide +kernel))) (by decide +kernel)
theorem iw_360 : Cond.methodLink "NotedVolume" 219 ⟨"NotedVolume$FileTable", "entryOf", "(I)LNotedVolume$Entry;"⟩ ∈ xv_T := xv_in (List.mem_append_right _ (List.mem_of_getElem? (i := 360) (by decide +kernel))) (by decide +kernel)
theorem iw_361 : Cond.instanceMethod ⟨"NotedVolume$FileTable", "entryOf", "(I)LNotedVolume$Entry;"⟩ ∈ xv_T := xv_in (List.mem_append_right _ (List.mem_of_getElem? (i := 361) (by decide +kernel))) (by decide +kernel)
theorem iw_362 : Cond.selects "NotedVolume$FileTable" ⟨"NotedVolume$FileTable", "entryOf", "(I)LNotedVolume$Entry;"⟩ ⟨"NotedVolume$FileTable", "entryOf", "(I)LNotedVolume$Entry;"⟩ ∈ xv_T := xv_in (List.mem_append_right _ (List.mem_of_getElem? (i := 362) (by decide +kernel))) (by decide +kernel)
theorem iw_364 : Cond.classLink "NotedVolume" 74 "NotedVolume$Entry" ∈ xv_T := xv_in (List.mem_append_right _ (List.mem_of_getElem? (i := 364) (by decide +kernel))) (by decide +kernel)
theorem iw_365 : Cond.instantiable "NotedVolume$Entry" 5 ∈ xv_T := xv_in (List.mem_append_right _ (List.mem_of_getElem? (i := 365) (by decide +kernel))) (by decide +kernel)
theorem iw_366 : Cond.methodLink "NotedVolume" 76 ⟨"NotedVolume$Entry", "<init>", "(IIIII)V"⟩ ∈ xv_T := xv_in (List.mem_append_right _ (List.mem_of_getElem? (i := 366) (by decide +kernel))) (by decide +kernel)
theorem iw_367 : Cond.instanceMethod ⟨"NotedVolume$Entry", "<init>", "(IIIII)V"⟩ ∈ xv_T := xv_in (List.mem_append_right _ (List.mem_of_getElem? (i := 367) (by decide +kernel))) (by decide +kernel)
theorem iw_371 : Cond.fieldLink "NotedVolume" 83 "NotedVolume$Entry" "number" "I" ∈ xv_T := xv_in (List.mem_append_right _ (List.mem_of_getElem? (i := 371) (by decide +kernel))) (by decide +kernel)
theorem iw_374 : Cond.fieldLink "NotedVolume$Subscriber" 61 "NotedVolume$Entry" "number" "I" ∈ xv_T := xv_in (List.mem_append_right _ (List.mem_of_getElem? (i := 374) (by decide +kernel))) (by decide +kernel)
theorem iw_377 : Cond.fieldLink "NotedVolume" 90 "NotedVolume$Entry" "sort" "I" ∈ xv_T := xv_in (List.mem_append_right _ (List.mem_of_getElem? (i := 377) (by decide +kernel))) (by decide +kernel)
theorem iw_379 : Cond.fieldLink "NotedVolume" 98 "NotedVolume$Entry" "parent" "I" ∈ xv_T := xv_in (List.mem_append_right _ (List.mem_of_getElem? (i := 379) (by decide +kernel))) (by decide +kernel)
theorem iw_382 : Cond.fieldLink "NotedVolume" 101 "NotedVolume$Entry" "name" "I" ∈ xv_T := xv_in (List.mem_append_right _ (List.mem_of_getElem? (i := 382) (by decide +kernel))) (by decide +kernel)
theorem iw_385 : Cond.fieldLink "NotedVolume" 104 "NotedVolume$Entry" "mark" "I" ∈ xv_T := xv_in (List.mem_append_right _ (List.mem_of_getElem? (i := 385) (by decide +kernel))) (by decide +kernel)
theorem iw_397 : Cond.methodLink "NotedVolume" 272 ⟨"NotedVolume$Ring", "append", "(LNotedVolume$Entry;I)V"⟩ ∈ xv_T := xv_in (List.mem_append_right _ (List.mem_of_getElem? (i := 397) (by decide +kernel))) (by decide +kernel)
theorem iw_398 : Cond.instanceMethod ⟨"NotedVolume$Ring", "append", "(LNotedVolume$Entry;I)V"⟩ ∈ xv_T := xv_in (List.mem_append_right _ (List.mem_of_getElem? (i := 398) (by decide +kernel))) (by decide +kernel)
theorem iw_399 : Cond.selects "NotedVolume$Ring" ⟨"NotedVolume$Ring", "append", "(LNotedVolume$Entry;I)V"⟩ ⟨"NotedVolume$Ring", "append", "(LNotedVolume$Entry;I)V"⟩ ∈ xv_T := xv_in (List.mem_append_right _ (List.mem_of_getElem? (i := 399) (by decide +kernel))) (by decide +kernel)
theorem iw_407 : Cond.fieldLink "NotedVolume$Subscriber" 95 "NotedVolume$Note" "entry" "LNotedVolume$Entry;" ∈ xv_T := xv_in (List.mem_append_right _ (List.mem_of_getElem? (i := 407) (by decide +kernel))) (by decide +kernel)
theorem iw_416 : Cond.methodLink "NotedVolume" 284 ⟨"NotedVolume$Gatherings", "take", "(I)V"⟩ ∈ xv_T := xv_in (List.mem_append_right _ (List.mem_of_getElem? (i := 416) (by decide +kernel))) (by decide +kernel)
theorem iw_420 : Cond.code ⟨"NotedVolume", "isOn", "()Z"⟩ prog_1_method_25_code 1 (some .boolean) ∈ xv_T := xv_in (List.mem_append_right _ (List.mem_of_getElem? (i := 420) (by decide +kernel))) (by decide +kernel)
theorem iw_431 : Cond.code ⟨"NotedVolume", "make", "(IZI)I"⟩ prog_1_method_2_code 5 (some .int) ∈ xv_T := xv_in (List.mem_append_right _ (List.mem_of_getElem? (i := 431) (by decide +kernel))) (by decide +kernel)
theorem iw_432 : Cond.methodLink "NotedVolume" 50 ⟨"NotedVolume", "checkPower", "()V"⟩ ∈ xv_T := xv_in (List.mem_append_right _ (List.mem_of_getElem? (i := 432) (by decide +kernel))) (by decide +kernel)
theorem iw_434 : Cond.instanceMethod ⟨"NotedVolume", "checkPower", "()V"⟩ ∈ xv_T := xv_in (List.mem_append_right _ (List.mem_of_getElem? (i := 434) (by decide +kernel))) (by decide +kernel)
theorem iw_435 : Cond.code ⟨"NotedVolume", "checkPower", "()V"⟩ prog_1_method_26_code 1 none ∈ xv_T := xv_in (List.mem_append_right _ (List.mem_of_getElem? (i := 435) (by decide +kernel))) (by decide +kernel)
theorem iw_436 : Cond.classLink "NotedVolume" 57 "java/lang/IllegalStateException" ∈ xv_T := xv_in (List.mem_append_right _ (List.mem_of_getElem? (i := 436) (by decide +kernel))) (by decide +kernel)
theorem iw_507 : Cond.methodLink "NotedVolume" 64 ⟨"NotedVolume", "checkName", "(I)V"⟩ ∈ xv_T := xv_in (List.mem_append_right _ (List.mem_of_getElem? (i := 507) (by decide +kernel))) (by decide +kernel)
theorem iw_508 : Cond.static ⟨"NotedVolume", "checkName", "(I)V"⟩ ∈ xv_T := xv_in (List.mem_append_right _ (List.mem_of_getElem? (i := 508) (by decide +kernel))) (by decide +kernel)
theorem iw_509 : Cond.code ⟨"NotedVolume", "checkName", "(I)V"⟩ prog_1_method_27_code 1 none ∈ xv_T := xv_in (List.mem_append_right _ (List.mem_of_getElem? (i := 509) (by decide +kernel))) (by decide +kernel)
theorem iw_510 : Cond.classLink "NotedVolume" 174 "java/lang/IllegalArgumentException" ∈ xv_T := xv_in (List.mem_append_right _ (List.mem_of_getElem? (i := 510) (by decide +kernel))) (by decide +kernel)
theorem iw_526 : Cond.methodLink "NotedVolume" 67 ⟨"NotedVolume", "checkFolder", "(I)V"⟩ ∈ xv_T := xv_in (List.mem_append_right _ (List.mem_of_getElem? (i := 526) (by decide +kernel))) (by decide +kernel)
theorem iw_528 : Cond.instanceMethod ⟨"NotedVolume", "checkFolder", "(I)V"⟩ ∈ xv_T := xv_in (List.mem_append_right _ (List.mem_of_getElem? (i := 528) (by decide +kernel))) (by decide +kernel)
theorem iw_529 : Cond.code ⟨"NotedVolume", "checkFolder", "(I)V"⟩ prog_1_method_29_code 2 none ∈ xv_T := xv_in (List.mem_append_right _ (List.mem_of_getElem? (i := 529) (by decide +kernel))) (by decide +kernel)
theorem iw_530 : Cond.methodLink "NotedVolume" 86 ⟨"NotedVolume", "liveEntry", "(I)LNotedVolume$Entry;"⟩ ∈ xv_T := xv_in (List.mem_append_right _ (List.mem_of_getElem? (i := 530) (by decide +kernel))) (by decide +kernel)
theorem iw_532 : Cond.instanceMethod ⟨"NotedVolume", "liveEntry", "(I)LNotedVolume$Entry;"⟩ ∈ xv_T := xv_in (List.mem_append_right _ (List.mem_of_getElem? (i := 532) (by decide +kernel))) (by decide +kernel)
theorem iw_533 : Cond.code ⟨"NotedVolume", "liveEntry", "(I)LNotedVolume$Entry;"⟩ prog_1_method_31_code 3 (some (.object "NotedVolume$Entry")) ∈ xv_T := xv_in (List.mem_append_right _ (List.mem_of_getElem? (i := 533) (by decide +kernel))) (by decide +kernel)
theorem iw_534 : Cond.classLink "NotedVolume" 133 "java/util/NoSuchElementException" ∈ xv_T := xv_in (List.mem_append_right _ (List.mem_of_getElem? (i := 534) (by decide +kernel))) (by decide +kernel)
theorem iw_550 : Cond.classLink "NotedVolume" 93 "java/lang/UnsupportedOperationException" ∈ xv_T := xv_in (List.mem_append_right _ (List.mem_of_getElem? (i := 550) (by decide +kernel))) (by decide +kernel)
theorem iw_566 : Cond.methodLink "NotedVolume" 70 ⟨"NotedVolume", "checkNameFree", "(III)V"⟩ ∈ xv_T := xv_in (List.mem_append_right _ (List.mem_of_getElem? (i := 566) (by decide +kernel))) (by decide +kernel)
theorem iw_568 : Cond.instanceMethod ⟨"NotedVolume", "checkNameFree", "(III)V"⟩ ∈ xv_T := xv_in (List.mem_append_right _ (List.mem_of_getElem? (i := 568) (by decide +kernel))) (by decide +kernel)
theorem iw_569 : Cond.code ⟨"NotedVolume", "checkNameFree", "(III)V"⟩ prog_1_method_30_code 5 none ∈ xv_T := xv_in (List.mem_append_right _ (List.mem_of_getElem? (i := 569) (by decide +kernel))) (by decide +kernel)
theorem iw_571 : Cond.methodLink "NotedVolume" 79 ⟨"NotedVolume", "noteAndDo", "(LNotedVolume$Entry;I)Z"⟩ ∈ xv_T := xv_in (List.mem_append_right _ (List.mem_of_getElem? (i := 571) (by decide +kernel))) (by decide +kernel)
theorem iw_573 : Cond.instanceMethod ⟨"NotedVolume", "noteAndDo", "(LNotedVolume$Entry;I)Z"⟩ ∈ xv_T := xv_in (List.mem_append_right _ (List.mem_of_getElem? (i := 573) (by decide +kernel))) (by decide +kernel)
theorem iw_574 : Cond.code ⟨"NotedVolume", "noteAndDo", "(LNotedVolume$Entry;I)Z"⟩ prog_1_method_35_code 3 (some .boolean) ∈ xv_T := xv_in (List.mem_append_right _ (List.mem_of_getElem? (i := 574) (by decide +kernel))) (by decide +kernel)
theorem iw_575 : Cond.methodLink "NotedVolume" 113 ⟨"NotedVolume", "writeChangeNote", "(LNotedVolume$Entry;I)Z"⟩ ∈ xv_T := xv_in (List.mem_append_right _ (List.mem_of_getElem? (i := 575) (by decide +kernel))) (by decide +kernel)
theorem iw_577 : Cond.instanceMethod ⟨"NotedVolume", "writeChangeNote", "(LNotedVolume$Entry;I)Z"⟩ ∈ xv_T := xv_in (List.mem_append_right _ (List.mem_of_getElem? (i := 577) (by decide +kernel))) (by decide +kernel)
theorem iw_578 : Cond.code ⟨"NotedVolume", "writeChangeNote", "(LNotedVolume$Entry;I)Z"⟩ prog_1_method_36_code 4 (some .boolean) ∈ xv_T := xv_in (List.mem_append_right _ (List.mem_of_getElem? (i := 578) (by decide +kernel))) (by decide +kernel)
theorem iw_579 : Cond.methodLink "NotedVolume" 265 ⟨"NotedVolume$Gatherings", "inTheWayOf", "(I)LNotedVolume$Gathering;"⟩ ∈ xv_T := xv_in (List.mem_append_right _ (List.mem_of_getElem? (i := 579) (by decide +kernel))) (by decide +kernel)
theorem iw_580 : Cond.instanceMethod ⟨"NotedVolume$Gatherings", "inTheWayOf", "(I)LNotedVolume$Gathering;"⟩ ∈ xv_T := xv_in (List.mem_append_right _ (List.mem_of_getElem? (i := 580) (by decide +kernel))) (by decide +kernel)
theorem iw_581 : Cond.selects "NotedVolume$Gatherings" ⟨"NotedVolume$Gatherings", "inTheWayOf", "(I)LNotedVolume$Gathering;"⟩ ⟨"NotedVolume$Gatherings", "inTheWayOf", "(I)LNotedVolume$Gathering;"⟩ ∈ xv_T := xv_in (List.mem_append_right _ (List.mem_of_getElem? (i := 581) (by decide +kernel))) (by decide +kernel)
theorem iw_584 : Cond.methodLink "NotedVolume" 138 ⟨"NotedVolume", "writeClosingNote", "(LNotedVolume$Gathering;)Z"⟩ ∈ xv_T := xv_in (List.mem_append_right _ (List.mem_of_getElem? (i := 584) (by decide +kernel))) (by decide +kernel)
theorem iw_586 : Cond.instanceMethod ⟨"NotedVolume", "writeClosingNote", "(LNotedVolume$Gathering;)Z"⟩ ∈ xv_T := xv_in (List.mem_append_right _ (List.mem_of_getElem? (i := 586) (by decide +kernel))) (by decide +kernel)
theorem iw_587 : Cond.code ⟨"NotedVolume", "writeClosingNote", "(LNotedVolume$Gathering;)Z"⟩ prog_1_method_37_code 2 (some .boolean) ∈ xv_T := xv_in (List.mem_append_right _ (List.mem_of_getElem? (i := 587) (by decide +kernel))) (by decide +kernel)
theorem iw_588 : Cond.methodLink "NotedVolume" 122 ⟨"NotedVolume", "spendWrite", "()Z"⟩ ∈ xv_T := xv_in (List.mem_append_right _ (List.mem_of_getElem? (i := 588) (by decide +kernel))) (by decide +kernel)
theorem iw_590 : Cond.instanceMethod ⟨"NotedVolume", "spendWrite", "()Z"⟩ ∈ xv_T := xv_in (List.mem_append_right _ (List.mem_of_getElem? (i := 590) (by decide +kernel))) (by decide +kernel)
theorem iw_591 : Cond.code ⟨"NotedVolume", "spendWrite", "()Z"⟩ prog_1_method_34_code 1 (some .boolean) ∈ xv_T := xv_in (List.mem_append_right _ (List.mem_of_getElem? (i := 591) (by decide +kernel))) (by decide +kernel)
theorem iw_592 : Cond.methodLink "NotedVolume" 258 ⟨"NotedVolume$Gatherings", "forget", "()V"⟩ ∈ xv_T := xv_in (List.mem_append_right _ (List.mem_of_getElem? (i := 592) (by decide +kernel))) (by decide +kernel)
theorem iw_593 : Cond.instanceMethod ⟨"NotedVolume$Gatherings", "forget", "()V"⟩ ∈ xv_T := xv_in (List.mem_append_right _ (List.mem_of_getElem? (i := 593) (by decide +kernel))) (by decide +kernel)
theorem iw_594 : Cond.selects "NotedVolume$Gatherings" ⟨"NotedVolume$Gatherings", "forget", "()V"⟩ ⟨"NotedVolume$Gatherings", "forget", "()V"⟩ ∈ xv_T := xv_in (List.mem_append_right _ (List.mem_of_getElem? (i := 594) (by decide +kernel))) (by decide +kernel)
theorem iw_596 : Cond.methodLink "NotedVolume" 268 ⟨"NotedVolume$Gatherings", "gather", "(II)I"⟩ ∈ xv_T := xv_in (List.mem_append_right _ (List.mem_of_getElem? (i := 596) (by decide +kernel))) (by decide +kernel)
theorem iw_597 : Cond.methodLink "NotedVolume" 261 ⟨"NotedVolume$FileTable", "put", "(LNotedVolume$Entry;)V"⟩ ∈ xv_T := xv_in (List.mem_append_right _ (List.mem_of_getElem? (i := 597) (by decide +kernel))) (by decide +kernel)
theorem iw_598 : Cond.instanceMethod ⟨"NotedVolume$FileTable", "put", "(LNotedVolume$Entry;)V"⟩ ∈ xv_T := xv_in (List.mem_append_right _ (List.mem_of_getElem? (i := 598) (by decide +kernel))) (by decide +kernel)
theorem iw_599 : Cond.selects "NotedVolume$FileTable" ⟨"NotedVolume$FileTable", "put", "(LNotedVolume$Entry;)V"⟩ ⟨"NotedVolume$FileTable", "put", "(LNotedVolume$Entry;)V"⟩ ∈ xv_T := xv_in (List.mem_append_right _ (List.mem_of_getElem? (i := 599) (by decide +kernel))) (by decide +kernel)
theorem iw_869 : Cond.code ⟨"NotedVolume", "change", "(I)I"⟩ prog_1_method_3_code 4 (some .int) ∈ xv_T := xv_in (List.mem_append_right _ (List.mem_of_getElem? (i := 869) (by decide +kernel))) (by decide +kernel)
theorem iw_877 : Cond.code ⟨"NotedVolume", "rename", "(III)Z"⟩ prog_1_method_4_code 7 (some .boolean) ∈ xv_T := xv_in (List.mem_append_right _ (List.mem_of_getElem? (i := 877) (by decide +kernel))) (by decide +kernel)
theorem iw_878 : Cond.methodLink "NotedVolume" 107 ⟨"NotedVolume", "isOrLiesIn", "(II)Z"⟩ ∈ xv_T := xv_in (List.mem_append_right _ (List.mem_of_getElem? (i := 878) (by decide +kernel))) (by decide +kernel)
theorem iw_880 : Cond.instanceMethod ⟨"NotedVolume", "isOrLiesIn", "(II)Z"⟩ ∈ xv_T := xv_in (List.mem_append_right _ (List.mem_of_getElem? (i := 880) (by decide +kernel))) (by decide +kernel)
theorem iw_881 : Cond.code ⟨"NotedVolume", "isOrLiesIn", "(II)Z"⟩ prog_1_method_33_code 6 (some .boolean) ∈ xv_T := xv_in (List.mem_append_right _ (List.mem_of_getElem? (i := 881) (by decide +kernel))) (by decide +kernel)
theorem iw_889 : Cond.code ⟨"NotedVolume", "remove", "(I)Z"⟩ prog_1_method_5_code 3 (some .boolean) ∈ xv_T := xv_in (List.mem_append_right _ (List.mem_of_getElem? (i := 889) (by decide +kernel))) (by decide +kernel)
theorem iw_890 : Cond.methodLink "NotedVolume" 116 ⟨"NotedVolume$FileTable", "hasFilesIn", "(I)Z"⟩ ∈ xv_T := xv_in (List.mem_append_right _ (List.mem_of_getElem? (i := 890) (by decide +kernel))) (by decide +kernel)
theorem iw_891 : Cond.instanceMethod ⟨"NotedVolume$FileTable", "hasFilesIn", "(I)Z"⟩ ∈ xv_T := xv_in (List.mem_append_right _ (List.mem_of_getElem? (i := 891) (by decide +kernel))) (by decide +kernel)
theorem iw_892 : Cond.selects "NotedVolume$FileTable" ⟨"NotedVolume$FileTable", "hasFilesIn", "(I)Z"⟩ ⟨"NotedVolume$FileTable", "hasFilesIn", "(I)Z"⟩ ∈ xv_T := xv_in (List.mem_append_right _ (List.mem_of_getElem? (i := 892) (by decide +kernel))) (by decide +kernel)
theorem iw_895 : Cond.methodLink "NotedVolume" 126 ⟨"NotedVolume$FileTable", "drop", "(I)V"⟩ ∈ xv_T := xv_in (List.mem_append_right _ (List.mem_of_getElem? (i := 895) (by decide +kernel))) (by decide +kernel)
theorem iw_896 : Cond.instanceMethod ⟨"NotedVolume$FileTable", "drop", "(I)V"⟩ ∈ xv_T := xv_in (List.mem_append_right _ (List.mem_of_getElem? (i := 896) (by decide +kernel))) (by decide +kernel)
theorem iw_897 : Cond.selects "NotedVolume$FileTable" ⟨"NotedVolume$FileTable", "drop", "(I)V"⟩ ⟨"NotedVolume$FileTable", "drop", "(I)V"⟩ ∈ xv_T := xv_in (List.mem_append_right _ (List.mem_of_getElem? (i := 897) (by decide +kernel))) (by decide +kernel)
theorem iw_906 : Cond.code ⟨"NotedVolume", "close", "(I)Z"⟩ prog_1_method_6_code 3 (some .boolean) ∈ xv_T := xv_in (List.mem_append_right _ (List.mem_of_getElem? (i := 906) (by decide +kernel))) (by decide +kernel)
theorem iw_907 : Cond.methodLink "NotedVolume" 129 ⟨"NotedVolume$Gatherings", "gatheringOf", "(I)LNotedVolume$Gathering;"⟩ ∈ xv_T := xv_in (List.mem_append_right _ (List.mem_of_getElem? (i := 907) (by decide +kernel))) (by decide +kernel)
theorem iw_916 : Cond.code ⟨"NotedVolume", "of", "(II)I"⟩ prog_1_method_8_code 4 (some .int) ∈ xv_T := xv_in (List.mem_append_right _ (List.mem_of_getElem? (i := 916) (by decide +kernel))) (by decide +kernel)
theorem iw_917 : Cond.methodLink "NotedVolume" 143 ⟨"NotedVolume", "checkItem", "(II)V"⟩ ∈ xv_T := xv_in (List.mem_append_right _ (List.mem_of_getElem? (i := 917) (by decide +kernel))) (by decide +kernel)
theorem iw_918 : Cond.static ⟨"NotedVolume", "checkItem", "(II)V"⟩ ∈ xv_T := xv_in (List.mem_append_right _ (List.mem_of_getElem? (i := 918) (by decide +kernel))) (by decide +kernel)
theorem iw_919 : Cond.code ⟨"NotedVolume", "checkItem", "(II)V"⟩ prog_1_method_28_code 2 none ∈ xv_T := xv_in (List.mem_append_right _ (List.mem_of_getElem? (i := 919) (by decide +kernel))) (by decide +kernel)
theorem iw_920 : Cond.classLink "NotedVolume" 245 "java/lang/IndexOutOfBoundsException" ∈ xv_T := xv_in (List.mem_append_right _ (List.mem_of_getElem? (i := 920) (by decide +kernel))) (by decide +kernel)
theorem iw_923 : Cond.methodLink "NotedVolume" 147 ⟨"NotedVolume$Entry", "item", "(I)I"⟩ ∈ xv_T := xv_in (List.mem_append_right _ (List.mem_of_getElem? (i := 923) (by decide +kernel))) (by decide +kernel)
theorem iw_933 : Cond.code ⟨"NotedVolume", "note", "(II)I"⟩ prog_1_method_13_code 4 (some .int) ∈ xv_T := xv_in (List.mem_append_right _ (List.mem_of_getElem? (i := 933) (by decide +kernel))) (by decide +kernel)
theorem iw_934 : Cond.methodLink "NotedVolume" 161 ⟨"NotedVolume$Ring", "noteAt", "(I)LNotedVolume$Note;"⟩ ∈ xv_T := xv_in (List.mem_append_right _ (List.mem_of_getElem? (i := 934) (by decide +kernel))) (by decide +kernel)
theorem iw_936 : Cond.methodLink "NotedVolume" 167 ⟨"NotedVolume$Note", "item", "(I)I"⟩ ∈ xv_T := xv_in (List.mem_append_right _ (List.mem_of_getElem? (i := 936) (by decide +kernel))) (by decide +kernel)
theorem iw_937 : Cond.instanceMethod ⟨"NotedVolume$Note", "item", "(I)I"⟩ ∈ xv_T := xv_in (List.mem_append_right _ (List.mem_of_getElem? (i := 937) (by decide +kernel))) (by decide +kernel)
theorem iw_938 : Cond.selects "NotedVolume$Note" ⟨"NotedVolume$Note", "item", "(I)I"⟩ ⟨"NotedVolume$Note", "item", "(I)I"⟩ ∈ xv_T := xv_in (List.mem_append_right _ (List.mem_of_getElem? (i := 938) (by decide +kernel))) (by decide +kernel)
theorem iw_947 : Cond.code ⟨"NotedVolume", "subscribe", "(II)V"⟩ prog_1_method_14_code 4 none ∈ xv_T := xv_in (List.mem_append_right _ (List.mem_of_getElem? (i := 947) (by decide +kernel))) (by decide +kernel)
theorem iw_948 : Cond.methodLink "NotedVolume" 170 ⟨"NotedVolume", "subscriberAt", "(I)LNotedVolume$Subscriber;"⟩ ∈ xv_T := xv_in (List.mem_append_right _ (List.mem_of_getElem? (i := 948) (by decide +kernel))) (by decide +kernel)
theorem iw_950 : Cond.instanceMethod ⟨"NotedVolume", "subscriberAt", "(I)LNotedVolume$Subscriber;"⟩ ∈ xv_T := xv_in (List.mem_append_right _ (List.mem_of_getElem? (i := 950) (by decide +kernel))) (by decide +kernel)
theorem iw_951 : Cond.code ⟨"NotedVolume", "subscriberAt", "(I)LNotedVolume$Subscriber;"⟩ prog_1_method_32_code 2 (some (.object "NotedVolume$Subscriber")) ∈ xv_T := xv_in (List.mem_append_right _ (List.mem_of_getElem? (i := 951) (by decide +kernel))) (by decide +kernel)
theorem iw_954 : Cond.methodLink "NotedVolume" 179 ⟨"NotedVolume$Subscriber", "beginAnew", "(ILNotedVolume$Ring;)V"⟩ ∈ xv_T := xv_in (List.mem_append_right _ (List.mem_of_getElem? (i := 954) (by decide +kernel))) (by decide +kernel)
theorem iw_955 : Cond.instanceMethod ⟨"NotedVolume$Subscriber", "beginAnew", "(ILNotedVolume$Ring;)V"⟩ ∈ xv_T := xv_in (List.mem_append_right _ (List.mem_of_getElem? (i := 955) (by decide +kernel))) (by decide +kernel)
theorem iw_956 : Cond.selects "NotedVolume$Subscriber" ⟨"NotedVolume$Subscriber", "beginAnew", "(ILNotedVolume$Ring;)V"⟩ ⟨"NotedVolume$Subscriber", "beginAnew", "(ILNotedVolume$Ring;)V"⟩ ∈ xv_T := xv_in (List.mem_append_right _ (List.mem_of_getElem? (i := 956) (by decide +kernel))) (by decide +kernel)
theorem iw_957 : Cond.code ⟨"NotedVolume$Subscriber", "beginAnew", "(ILNotedVolume$Ring;)V"⟩ prog_8_method_2_code 4 none ∈ xv_T := xv_in (List.mem_append_right _ (List.mem_of_getElem? (i := 957) (by decide +kernel))) (by decide +kernel)
theorem iw_958 : Cond.methodLink "NotedVolume$Subscriber" 31 ⟨"NotedVolume$Ring", "nextSerial", "()I"⟩ ∈ xv_T := xv_in (List.mem_append_right _ (List.mem_of_getElem? (i := 958) (by decide +kernel))) (by decide +kernel)
theorem iw_965 : Cond.code ⟨"NotedVolume", "cursor", "(I)I"⟩ prog_1_method_15_code 2 (some .int) ∈ xv_T := xv_in (List.mem_append_right _ (List.mem_of_getElem? (i := 965) (by decide +kernel))) (by decide +kernel)
theorem iw_972 : Cond.code ⟨"NotedVolume", "read", "(I)I"⟩ prog_1_method_16_code 3 (some .int) ∈ xv_T := xv_in (List.mem_append_right _ (List.mem_of_getElem? (i := 972) (by decide +kernel))) (by decide +kernel)
theorem iw_973 : Cond.methodLink "NotedVolume" 189 ⟨"NotedVolume$Subscriber", "takeNote", "(LNotedVolume$Ring;I)I"⟩ ∈ xv_T := xv_in (List.mem_append_right _ (List.mem_of_getElem? (i := 973) (by decide +kernel))) (by decide +kernel)
theorem iw_974 : Cond.instanceMethod ⟨"NotedVolume$Subscriber", "takeNote", "(LNotedVolume$Ring;I)I"⟩ ∈ xv_T := xv_in (List.mem_append_right _ (List.mem_of_getElem? (i := 974) (by decide +kernel))) (by decide +kernel)
theorem iw_975 : Cond.selects "NotedVolume$Subscriber" ⟨"NotedVolume$Subscriber", "takeNote", "(LNotedVolume$Ring;I)I"⟩ ⟨"NotedVolume$Subscriber", "takeNote", "(LNotedVolume$Ring;I)I"⟩ ∈ xv_T := xv_in (List.mem_append_right _ (List.mem_of_getElem? (i := 975) (by decide +kernel))) (by decide +kernel)
theorem iw_976 : Cond.code ⟨"NotedVolume$Subscriber", "takeNote", "(LNotedVolume$Ring;I)I"⟩ prog_8_method_3_code 5 (some .int) ∈ xv_T := xv_in (List.mem_append_right _ (List.mem_of_getElem? (i := 976) (by decide +kernel))) (by decide +kernel)
theorem iw_977 : Cond.methodLink "NotedVolume$Subscriber" 41 ⟨"NotedVolume$Ring", "leastKept", "()I"⟩ ∈ xv_T := xv_in (List.mem_append_right _ (List.mem_of_getElem? (i := 977) (by decide +kernel))) (by decide +kernel)
theorem iw_978 : Cond.methodLink "NotedVolume$Subscriber" 44 ⟨"NotedVolume$Ring", "noteAt", "(I)LNotedVolume$Note;"⟩ ∈ xv_T := xv_in (List.mem_append_right _ (List.mem_of_getElem? (i := 978) (by decide +kernel))) (by decide +kernel)
theorem iw_979 : Cond.methodLink "NotedVolume$Subscriber" 48 ⟨"NotedVolume$Note", "hasAny", "(I)Z"⟩ ∈ xv_T := xv_in (List.mem_append_right _ (List.mem_of_getElem? (i := 979) (by decide +kernel))) (by decide +kernel)
theorem iw_986 : Cond.code ⟨"NotedVolume", "list", "(I)V"⟩ prog_1_method_17_code 2 none ∈ xv_T := xv_in (List.mem_append_right _ (List.mem_of_getElem? (i := 986) (by decide +kernel))) (by decide +kernel)
theorem iw_987 : Cond.methodLink "NotedVolume" 193 ⟨"NotedVolume$Subscriber", "beginListing", "(LNotedVolume$Ring;)V"⟩ ∈ xv_T := xv_in (List.mem_append_right _ (List.mem_of_getElem? (i := 987) (by decide +kernel))) (by decide +kernel)
theorem iw_988 : Cond.instanceMethod ⟨"NotedVolume$Subscriber", "beginListing", "(LNotedVolume$Ring;)V"⟩ ∈ xv_T := xv_in (List.mem_append_right _ (List.mem_of_getElem? (i := 988) (by decide +kernel))) (by decide +kernel)
theorem iw_989 : Cond.selects "NotedVolume$Subscriber" ⟨"NotedVolume$Subscriber", "beginListing", "(LNotedVolume$Ring;)V"⟩ ⟨"NotedVolume$Subscriber", "beginListing", "(LNotedVolume$Ring;)V"⟩ ∈ xv_T := xv_in (List.mem_append_right _ (List.mem_of_getElem? (i := 989) (by decide +kernel))) (by decide +kernel)
theorem iw_990 : Cond.code ⟨"NotedVolume$Subscriber", "beginListing", "(LNotedVolume$Ring;)V"⟩ prog_8_method_4_code 2 none ∈ xv_T := xv_in (List.mem_append_right _ (List.mem_of_getElem? (i := 990) (by decide +kernel))) (by decide +kernel)
theorem iw_997 : Cond.code ⟨"NotedVolume", "page", "(I)I"⟩ prog_1_method_18_code 3 (some .int) ∈ xv_T := xv_in (List.mem_append_right _ (List.mem_of_getElem? (i := 997) (by decide +kernel))) (by decide +kernel)
theorem iw_999 : Cond.methodLink "NotedVolume" 202 ⟨"NotedVolume$Subscriber", "showPage", "(LNotedVolume$FileTable;)I"⟩ ∈ xv_T := xv_in (List.mem_append_right _ (List.mem_of_getElem? (i := 999) (by decide +kernel))) (by decide +kernel)
theorem iw_1000 : Cond.instanceMethod ⟨"NotedVolume$Subscriber", "showPage", "(LNotedVolume$FileTable;)I"⟩ ∈ xv_T := xv_in (List.mem_append_right _ (List.mem_of_getElem? (i := 1000) (by decide +kernel))) (by decide +kernel)
theorem iw_1001 : Cond.selects "NotedVolume$Subscriber" ⟨"NotedVolume$Subscriber", "showPage", "(LNotedVolume$FileTable;)I"⟩ ⟨"NotedVolume$Subscriber", "showPage", "(LNotedVolume$FileTable;)I"⟩ ∈ xv_T := xv_in (List.mem_append_right _ (List.mem_of_getElem? (i := 1001) (by decide +kernel))) (by decide +kernel)
theorem iw_1002 : Cond.code ⟨"NotedVolume$Subscriber", "showPage", "(LNotedVolume$FileTable;)I"⟩ prog_8_method_5_code 5 (some .int) ∈ xv_T := xv_in (List.mem_append_right _ (List.mem_of_getElem? (i := 1002) (by decide +kernel))) (by decide +kernel)
theorem iw_1003 : Cond.methodLink "NotedVolume$Subscriber" 57 ⟨"NotedVolume$FileTable", "entryAbove", "(I)LNotedVolume$Entry;"⟩ ∈ xv_T := xv_in (List.mem_append_right _ (List.mem_of_getElem? (i := 1003) (by decide +kernel))) (by decide +kernel)
theorem iw_1004 : Cond.instanceMethod ⟨"NotedVolume$FileTable", "entryAbove", "(I)LNotedVolume$Entry;"⟩ ∈ xv_T := xv_in (List.mem_append_right _ (List.mem_of_getElem? (i := 1004) (by decide +kernel))) (by decide +kernel)
theorem iw_1005 : Cond.selects "NotedVolume$FileTable" ⟨"NotedVolume$FileTable", "entryAbove", "(I)LNotedVolume$Entry;"⟩ ⟨"NotedVolume$FileTable", "entryAbove", "(I)LNotedVolume$Entry;"⟩ ∈ xv_T := xv_in (List.mem_append_right _ (List.mem_of_getElem? (i := 1005) (by decide +kernel))) (by decide +kernel)
theorem iw_1013 : Cond.code ⟨"NotedVolume", "shown", "(II)I"⟩ prog_1_method_19_code 4 (some .int) ∈ xv_T := xv_in (List.mem_append_right _ (List.mem_of_getElem? (i := 1013) (by decide +kernel))) (by decide +kernel)
theorem iw_1020 : Cond.code ⟨"NotedVolume", "follow", "(II)I"⟩ prog_1_method_20_code 6 (some .int) ∈ xv_T := xv_in (List.mem_append_right _ (List.mem_of_getElem? (i := 1020) (by decide +kernel))) (by decide +kernel)
theorem iw_1022 : Cond.methodLink "NotedVolume" 212 ⟨"NotedVolume$Subscriber", "act", "(LNotedVolume$Ring;LNotedVolume$FileTable;)Z"⟩ ∈ xv_T := xv_in (List.mem_append_right _ (List.mem_of_getElem? (i := 1022) (by decide +kernel))) (by decide +kernel)
theorem iw_1023 : Cond.instanceMethod ⟨"NotedVolume$Subscriber", "act", "(LNotedVolume$Ring;LNotedVolume$FileTable;)Z"⟩ ∈ xv_T := xv_in (List.mem_append_right _ (List.mem_of_getElem? (i := 1023) (by decide +kernel))) (by decide +kernel)
theorem iw_1024 : Cond.selects "NotedVolume$Subscriber" ⟨"NotedVolume$Subscriber", "act", "(LNotedVolume$Ring;LNotedVolume$FileTable;)Z"⟩ ⟨"NotedVolume$Subscriber", "act", "(LNotedVolume$Ring;LNotedVolume$FileTable;)Z"⟩ ∈ xv_T := xv_in (List.mem_append_right _ (List.mem_of_getElem? (i := 1024) (by decide +kernel))) (by decide +kernel)
theorem iw_1025 : Cond.code ⟨"NotedVolume$Subscriber", "act", "(LNotedVolume$Ring;LNotedVolume$FileTable;)Z"⟩ prog_8_method_6_code 5 (some .boolean) ∈ xv_T := xv_in (List.mem_append_right _ (List.mem_of_getElem? (i := 1025) (by decide +kernel))) (by decide +kernel)
theorem iw_1026 : Cond.methodLink "NotedVolume$Subscriber" 66 ⟨"NotedVolume$Subscriber", "copyPage", "(LNotedVolume$FileTable;)V"⟩ ∈ xv_T := xv_in (List.mem_append_right _ (List.mem_of_getElem? (i := 1026) (by decide +kernel))) (by decide +kernel)
theorem iw_1028 : Cond.instanceMethod ⟨"NotedVolume$Subscriber", "copyPage", "(LNotedVolume$FileTable;)V"⟩ ∈ xv_T := xv_in (List.mem_append_right _ (List.mem_of_getElem? (i := 1028) (by decide +kernel))) (by decide +kernel)
theorem iw_1029 : Cond.code ⟨"NotedVolume$Subscriber", "copyPage", "(LNotedVolume$FileTable;)V"⟩ prog_8_method_7_code 4 none ∈ xv_T := xv_in (List.mem_append_right _ (List.mem_of_getElem? (i := 1029) (by decide +kernel))) (by decide +kernel)
theorem iw_1030 : Cond.methodLink "NotedVolume$Subscriber" 82 ⟨"NotedVolume$Subscriber", "showPage", "(LNotedVolume$FileTable;)I"⟩ ∈ xv_T := xv_in (List.mem_append_right _ (List.mem_of_getElem? (i := 1030) (by decide +kernel))) (by decide +kernel)
theorem iw_1031 : Cond.constant "NotedVolume$Subscriber" 86 (2147483647 : Int32) ∈ xv_T := xv_in (List.mem_append_right _ (List.mem_of_getElem? (i := 1031) (by decide +kernel))) (by decide +kernel)
theorem iw_1032 : Cond.methodLink "NotedVolume$Subscriber" 87 ⟨"NotedVolume$FileTable", "dropRange", "(II)V"⟩ ∈ xv_T := xv_in (List.mem_append_right _ (List.mem_of_getElem? (i := 1032) (by decide +kernel))) (by decide +kernel)
theorem iw_1033 : Cond.instanceMethod ⟨"NotedVolume$FileTable", "dropRange", "(II)V"⟩ ∈ xv_T := xv_in (List.mem_append_right _ (List.mem_of_getElem? (i := 1033) (by decide +kernel))) (by decide +kernel)
theorem iw_1034 : Cond.selects "NotedVolume$FileTable" ⟨"NotedVolume$FileTable", "dropRange", "(II)V"⟩ ⟨"NotedVolume$FileTable", "dropRange", "(II)V"⟩ ∈ xv_T := xv_in (List.mem_append_right _ (List.mem_of_getElem? (i := 1034) (by decide +kernel))) (by decide +kernel)
theorem iw_1036 : Cond.methodLink "NotedVolume$Subscriber" 91 ⟨"NotedVolume$Subscriber", "copyAsItIs", "(ILNotedVolume$FileTable;)V"⟩ ∈ xv_T := xv_in (List.mem_append_right _ (List.mem_of_getElem? (i := 1036) (by decide +kernel))) (by decide +kernel)
theorem iw_1038 : Cond.instanceMethod ⟨"NotedVolume$Subscriber", "copyAsItIs", "(ILNotedVolume$FileTable;)V"⟩ ∈ xv_T := xv_in (List.mem_append_right _ (List.mem_of_getElem? (i := 1038) (by decide +kernel))) (by decide +kernel)
theorem iw_1039 : Cond.code ⟨"NotedVolume$Subscriber", "copyAsItIs", "(ILNotedVolume$FileTable;)V"⟩ prog_8_method_9_code 4 none ∈ xv_T := xv_in (List.mem_append_right _ (List.mem_of_getElem? (i := 1039) (by decide +kernel))) (by decide +kernel)
theorem iw_1040 : Cond.methodLink "NotedVolume$Subscriber" 106 ⟨"NotedVolume$FileTable", "entryOf", "(I)LNotedVolume$Entry;"⟩ ∈ xv_T := xv_in (List.mem_append_right _ (List.mem_of_getElem? (i := 1040) (by decide +kernel))) (by decide +kernel)
theorem iw_1041 : Cond.methodLink "NotedVolume$Subscriber" 102 ⟨"NotedVolume$FileTable", "put", "(LNotedVolume$Entry;)V"⟩ ∈ xv_T := xv_in (List.mem_append_right _ (List.mem_of_getElem? (i := 1041) (by decide +kernel))) (by decide +kernel)
theorem iw_1042 : Cond.methodLink "NotedVolume$Subscriber" 70 ⟨"NotedVolume$Subscriber", "takeNote", "(LNotedVolume$Ring;I)I"⟩ ∈ xv_T := xv_in (List.mem_append_right _ (List.mem_of_getElem? (i := 1042) (by decide +kernel))) (by decide +kernel)
theorem iw_1043 : Cond.methodLink "NotedVolume$Subscriber" 74 ⟨"NotedVolume$Subscriber", "beginListing", "(LNotedVolume$Ring;)V"⟩ ∈ xv_T := xv_in (List.mem_append_right _ (List.mem_of_getElem? (i := 1043) (by decide +kernel))) (by decide +kernel)
theorem iw_1044 : Cond.methodLink "NotedVolume$Subscriber" 78 ⟨"NotedVolume$Subscriber", "copyNote", "(LNotedVolume$Note;LNotedVolume$FileTable;)V"⟩ ∈ xv_T := xv_in (List.mem_append_right _ (List.mem_of_getElem? (i := 1044) (by decide +kernel))) (by decide +kernel)
theorem iw_1046 : Cond.instanceMethod ⟨"NotedVolume$Subscriber", "copyNote", "(LNotedVolume$Note;LNotedVolume$FileTable;)V"⟩ ∈ xv_T := xv_in (List.mem_append_right _ (List.mem_of_getElem? (i := 1046) (by decide +kernel))) (by decide +kernel)
theorem iw_1047 : Cond.code ⟨"NotedVolume$Subscriber", "copyNote", "(LNotedVolume$Note;LNotedVolume$FileTable;)V"⟩ prog_8_method_8_code 4 none ∈ xv_T := xv_in (List.mem_append_right _ (List.mem_of_getElem? (i := 1047) (by decide +kernel))) (by decide +kernel)
theorem iw_1048 : Cond.methodLink "NotedVolume$Subscriber" 99 ⟨"NotedVolume$FileTable", "drop", "(I)V"⟩ ∈ xv_T := xv_in (List.mem_append_right _ (List.mem_of_getElem? (i := 1048) (by decide +kernel))) (by decide +kernel)
theorem iw_1055 : Cond.code ⟨"NotedVolume", "copied", "(III)I"⟩ prog_1_method_21_code 6 (some .int) ∈ xv_T := xv_in (List.mem_append_right _ (List.mem_of_getElem? (i := 1055) (by decide +kernel))) (by decide +kernel)
theorem iw_1063 : Cond.code ⟨"NotedVolume", "inStep", "(I)Z"⟩ prog_1_method_22_code 2 (some .boolean) ∈ xv_T := xv_in (List.mem_append_right _ (List.mem_of_getElem? (i := 1063) (by decide +kernel))) (by decide +kernel)
theorem iw_1064 : Cond.methodLink "NotedVolume" 224 ⟨"NotedVolume$FileTable", "isLike", "(LNotedVolume$FileTable;)Z"⟩ ∈ xv_T := xv_in (List.mem_append_right _ (List.mem_of_getElem? (i := 1064) (by decide +kernel))) (by decide +kernel)
theorem iw_1065 : Cond.instanceMethod ⟨"NotedVolume$FileTable", "isLike", "(LNotedVolume$FileTable;)Z"⟩ ∈ xv_T := xv_in (List.mem_append_right _ (List.mem_of_getElem? (i := 1065) (by decide +kernel))) (by decide +kernel)
theorem iw_1066 : Cond.selects "NotedVolume$FileTable" ⟨"NotedVolume$FileTable", "isLike", "(LNotedVolume$FileTable;)Z"⟩ ⟨"NotedVolume$FileTable", "isLike", "(LNotedVolume$FileTable;)Z"⟩ ∈ xv_T := xv_in (List.mem_append_right _ (List.mem_of_getElem? (i := 1066) (by decide +kernel))) (by decide +kernel)
theorem iw_1078 : Cond.code ⟨"NotedVolume", "cutAfter", "(I)V"⟩ prog_1_method_23_code 2 none ∈ xv_T := xv_in (List.mem_append_right _ (List.mem_of_getElem? (i := 1078) (by decide +kernel))) (by decide +kernel)
theorem ps_4 : Cond.selects "NotedVolume" ⟨"NotedVolume", "endGathering", "(LNotedVolume$Gathering;)V"⟩ ⟨"NotedVolume", "endGathering", "(LNotedVolume$Gathering;)V"⟩ ∈ xv_T := xv_in (List.mem_append_left _ (List.mem_of_getElem? (i := 4) (by decide +kernel))) (by decide +kernel)
theorem ps_5 : Cond.selects "NotedVolume" ⟨"NotedVolume", "checkPower", "()V"⟩ ⟨"NotedVolume", "checkPower", "()V"⟩ ∈ xv_T := xv_in (List.mem_append_left _ (List.mem_of_getElem? (i := 5) (by decide +kernel))) (by decide +kernel)
theorem ps_7 : Cond.selects "NotedVolume" ⟨"NotedVolume", "checkFolder", "(I)V"⟩ ⟨"NotedVolume", "checkFolder", "(I)V"⟩ ∈ xv_T := xv_in (List.mem_append_left _ (List.mem_of_getElem? (i := 7) (by decide +kernel))) (by decide +kernel)
theorem ps_8 : Cond.selects "NotedVolume" ⟨"NotedVolume", "liveEntry", "(I)LNotedVolume$Entry;"⟩ ⟨"NotedVolume", "liveEntry", "(I)LNotedVolume$Entry;"⟩ ∈ xv_T := xv_in (List.mem_append_left _ (List.mem_of_getElem? (i := 8) (by decide +kernel))) (by decide +kernel)
theorem ps_9 : Cond.selects "NotedVolume" ⟨"NotedVolume", "checkNameFree", "(III)V"⟩ ⟨"NotedVolume", "checkNameFree", "(III)V"⟩ ∈ xv_T := xv_in (List.mem_append_left _ (List.mem_of_getElem? (i := 9) (by decide +kernel))) (by decide +kernel)
theorem ps_10 : Cond.selects "NotedVolume" ⟨"NotedVolume", "noteAndDo", "(LNotedVolume$Entry;I)Z"⟩ ⟨"NotedVolume", "noteAndDo", "(LNotedVolume$Entry;I)Z"⟩ ∈ xv_T := xv_in (List.mem_append_left _ (List.mem_of_getElem? (i := 10) (by decide +kernel))) (by decide +kernel)
theorem ps_11 : Cond.selects "NotedVolume" ⟨"NotedVolume", "writeChangeNote", "(LNotedVolume$Entry;I)Z"⟩ ⟨"NotedVolume", "writeChangeNote", "(LNotedVolume$Entry;I)Z"⟩ ∈ xv_T := xv_in (List.mem_append_left _ (List.mem_of_getElem? (i := 11) (by decide +kernel))) (by decide +kernel)
theorem ps_12 : Cond.selects "NotedVolume" ⟨"NotedVolume", "writeClosingNote", "(LNotedVolume$Gathering;)Z"⟩ ⟨"NotedVolume", "writeClosingNote", "(LNotedVolume$Gathering;)Z"⟩ ∈ xv_T := xv_in (List.mem_append_left _ (List.mem_of_getElem? (i := 12) (by decide +kernel))) (by decide +kernel)
theorem ps_13 : Cond.selects "NotedVolume" ⟨"NotedVolume", "spendWrite", "()Z"⟩ ⟨"NotedVolume", "spendWrite", "()Z"⟩ ∈ xv_T := xv_in (List.mem_append_left _ (List.mem_of_getElem? (i := 13) (by decide +kernel))) (by decide +kernel)
theorem ps_16 : Cond.selects "NotedVolume" ⟨"NotedVolume", "isOrLiesIn", "(II)Z"⟩ ⟨"NotedVolume", "isOrLiesIn", "(II)Z"⟩ ∈ xv_T := xv_in (List.mem_append_left _ (List.mem_of_getElem? (i := 16) (by decide +kernel))) (by decide +kernel)
theorem ps_17 : Cond.selects "NotedVolume" ⟨"NotedVolume", "subscriberAt", "(I)LNotedVolume$Subscriber;"⟩ ⟨"NotedVolume", "subscriberAt", "(I)LNotedVolume$Subscriber;"⟩ ∈ xv_T := xv_in (List.mem_append_left _ (List.mem_of_getElem? (i := 17) (by decide +kernel))) (by decide +kernel)
theorem ps_18 : Cond.selects "NotedVolume$Subscriber" ⟨"NotedVolume$Subscriber", "copyPage", "(LNotedVolume$FileTable;)V"⟩ ⟨"NotedVolume$Subscriber", "copyPage", "(LNotedVolume$FileTable;)V"⟩ ∈ xv_T := xv_in (List.mem_append_left _ (List.mem_of_getElem? (i := 18) (by decide +kernel))) (by decide +kernel)
theorem ps_19 : Cond.selects "NotedVolume$Subscriber" ⟨"NotedVolume$Subscriber", "copyAsItIs", "(ILNotedVolume$FileTable;)V"⟩ ⟨"NotedVolume$Subscriber", "copyAsItIs", "(ILNotedVolume$FileTable;)V"⟩ ∈ xv_T := xv_in (List.mem_append_left _ (List.mem_of_getElem? (i := 19) (by decide +kernel))) (by decide +kernel)
theorem ps_20 : Cond.selects "NotedVolume$Subscriber" ⟨"NotedVolume$Subscriber", "copyNote", "(LNotedVolume$Note;LNotedVolume$FileTable;)V"⟩ ⟨"NotedVolume$Subscriber", "copyNote", "(LNotedVolume$Note;LNotedVolume$FileTable;)V"⟩ ∈ xv_T := xv_in (List.mem_append_left _ (List.mem_of_getElem? (i := 20) (by decide +kernel))) (by decide +kernel)
def mm_S_init : xa_M := (⟨"NotedVolume$Subscriber", "<init>", "()V"⟩, prog_8_method_1_code, 1, none, [])
theorem ok_S_init : xa_O mm_S_init := ⟨by decide, Or.inr ⟨rfl, iw_112⟩, iw_8, by decide, by decide⟩
def mm_S_act : xa_M := (⟨"NotedVolume$Subscriber", "act", "(LNotedVolume$Ring;LNotedVolume$FileTable;)Z"⟩, prog_8_method_6_code, 5, (some .boolean), [])
theorem ok_S_act : xa_O mm_S_act := ⟨by decide, Or.inr ⟨rfl, iw_1025⟩, iw_8, by decide, by decide⟩
def mm_S_beginAnew : xa_M := (⟨"NotedVolume$Subscriber", "beginAnew", "(ILNotedVolume$Ring;)V"⟩, prog_8_method_2_code, 4, none, [])
theorem ok_S_beginAnew : xa_O mm_S_beginAnew := ⟨by decide, Or.inr ⟨rfl, iw_957⟩, iw_8, by decide, by decide⟩
def mm_S_beginListing : xa_M := (⟨"NotedVolume$Subscriber", "beginListing", "(LNotedVolume$Ring;)V"⟩, prog_8_method_4_code, 2, none, [])
theorem ok_S_beginListing : xa_O mm_S_beginListing := ⟨by decide, Or.inr ⟨rfl, iw_990⟩, iw_8, by decide, by decide⟩
def mm_S_copyAsItIs : xa_M := (⟨"NotedVolume$Subscriber", "copyAsItIs", "(ILNotedVolume$FileTable;)V"⟩, prog_8_method_9_code, 4, none, [])
theorem ok_S_copyAsItIs : xa_O mm_S_copyAsItIs := ⟨by decide, Or.inr ⟨rfl, iw_1039⟩, iw_8, by decide, by decide⟩
def mm_S_copyNote : xa_M := (⟨"NotedVolume$Subscriber", "copyNote", "(LNotedVolume$Note;LNotedVolume$FileTable;)V"⟩, prog_8_method_8_code, 4, none, [])
theorem ok_S_copyNote : xa_O mm_S_copyNote := ⟨by decide, Or.inr ⟨rfl, iw_1047⟩, iw_8, by decide, by decide⟩
def mm_S_copyPage : xa_M := (⟨"NotedVolume$Subscriber", "copyPage", "(LNotedVolume$FileTable;)V"⟩, prog_8_method_7_code, 4, none, [])
theorem ok_S_copyPage : xa_O mm_S_copyPage := ⟨by decide, Or.inr ⟨rfl, iw_1029⟩, iw_8, by decide, by decide⟩
def mm_S_showPage : xa_M := (⟨"NotedVolume$Subscriber", "showPage", "(LNotedVolume$FileTable;)I"⟩, prog_8_method_5_code, 5, (some .int), [])
theorem ok_S_showPage : xa_O mm_S_showPage := ⟨by decide, Or.inr ⟨rfl, iw_1002⟩, iw_8, by decide, by decide⟩
def mm_S_takeNote : xa_M := (⟨"NotedVolume$Subscriber", "takeNote", "(LNotedVolume$Ring;I)I"⟩, prog_8_method_3_code, 5, (some .int), [])
theorem ok_S_takeNote : xa_O mm_S_takeNote := ⟨by decide, Or.inr ⟨rfl, iw_976⟩, iw_8, by decide, by decide⟩
def mm_V_init : xa_M := (⟨"NotedVolume", "<init>", "()V"⟩, prog_1_method_1_code, 2, none, [])
theorem ok_V_init : xa_O mm_V_init := ⟨by decide, Or.inr ⟨rfl, iw_37⟩, iw_1, by decide, by decide⟩
def mm_V_change : xa_M := (⟨"NotedVolume", "change", "(I)I"⟩, prog_1_method_3_code, 4, (some .int), [])
theorem ok_V_change : xa_O mm_V_change := ⟨by decide, Or.inr ⟨rfl, iw_869⟩, iw_1, by decide, by decide⟩
def mm_V_checkFolder : xa_M := (⟨"NotedVolume", "checkFolder", "(I)V"⟩, prog_1_method_29_code, 2, none, [])
theorem ok_V_checkFolder : xa_O mm_V_checkFolder := ⟨by decide, Or.inr ⟨rfl, iw_529⟩, iw_1, by decide, by decide⟩
def mm_V_checkItem : xa_M := (⟨"NotedVolume", "checkItem", "(II)V"⟩, prog_1_method_28_code, 2, none, [])
theorem ok_V_checkItem : xa_O mm_V_checkItem := ⟨by decide, Or.inr ⟨rfl, iw_919⟩, iw_1, by decide, by decide⟩
def mm_V_checkName : xa_M := (⟨"NotedVolume", "checkName", "(I)V"⟩, prog_1_method_27_code, 1, none, [])
theorem ok_V_checkName : xa_O mm_V_checkName := ⟨by decide, Or.inr ⟨rfl, iw_509⟩, iw_1, by decide, by decide⟩
def mm_V_checkNameFree : xa_M := (⟨"NotedVolume", "checkNameFree", "(III)V"⟩, prog_1_method_30_code, 5, none, [])
theorem ok_V_checkNameFree : xa_O mm_V_checkNameFree := ⟨by decide, Or.inr ⟨rfl, iw_569⟩, iw_1, by decide, by decide⟩
def mm_V_checkPower : xa_M := (⟨"NotedVolume", "checkPower", "()V"⟩, prog_1_method_26_code, 1, none, [])
theorem ok_V_checkPower : xa_O mm_V_checkPower := ⟨by decide, Or.inr ⟨rfl, iw_435⟩, iw_1, by decide, by decide⟩
def mm_V_close : xa_M := (⟨"NotedVolume", "close", "(I)Z"⟩, prog_1_method_6_code, 3, (some .boolean), [])
theorem ok_V_close : xa_O mm_V_close := ⟨by decide, Or.inr ⟨rfl, iw_906⟩, iw_1, by decide, by decide⟩
def mm_V_copied : xa_M := (⟨"NotedVolume", "copied", "(III)I"⟩, prog_1_method_21_code, 6, (some .int), [])
theorem ok_V_copied : xa_O mm_V_copied := ⟨by decide, Or.inr ⟨rfl, iw_1055⟩, iw_1, by decide, by decide⟩
def mm_V_cursor : xa_M := (⟨"NotedVolume", "cursor", "(I)I"⟩, prog_1_method_15_code, 2, (some .int), [])
theorem ok_V_cursor : xa_O mm_V_cursor := ⟨by decide, Or.inr ⟨rfl, iw_965⟩, iw_1, by decide, by decide⟩
def mm_V_cutAfter : xa_M := (⟨"NotedVolume", "cutAfter", "(I)V"⟩, prog_1_method_23_code, 2, none, [])
theorem ok_V_cutAfter : xa_O mm_V_cutAfter := ⟨by decide, Or.inr ⟨rfl, iw_1078⟩, iw_1, by decide, by decide⟩
def mm_V_endGathering : xa_M := (⟨"NotedVolume", "endGathering", "(LNotedVolume$Gathering;)V"⟩, prog_1_method_38_code, 4, none, [])
theorem ok_V_endGathering : xa_O mm_V_endGathering := ⟨by decide, Or.inr ⟨rfl, iw_359⟩, iw_1, by decide, by decide⟩
def mm_V_find : xa_M := (⟨"NotedVolume", "find", "(II)I"⟩, prog_1_method_9_code, 4, (some .int), [])
theorem ok_V_find : xa_O mm_V_find := ⟨by decide, Or.inr ⟨rfl, iw_178⟩, iw_1, by decide, by decide⟩
def mm_V_follow : xa_M := (⟨"NotedVolume", "follow", "(II)I"⟩, prog_1_method_20_code, 6, (some .int), [])
theorem ok_V_follow : xa_O mm_V_follow := ⟨by decide, Or.inr ⟨rfl, iw_1020⟩, iw_1, by decide, by decide⟩
def mm_V_head : xa_M := (⟨"NotedVolume", "head", "()I"⟩, prog_1_method_12_code, 1, (some .int), [])
theorem ok_V_head : xa_O mm_V_head := ⟨by decide, Or.inr ⟨rfl, iw_218⟩, iw_1, by decide, by decide⟩
def mm_V_inStep : xa_M := (⟨"NotedVolume", "inStep", "(I)Z"⟩, prog_1_method_22_code, 2, (some .boolean), [])
theorem ok_V_inStep : xa_O mm_V_inStep := ⟨by decide, Or.inr ⟨rfl, iw_1063⟩, iw_1, by decide, by decide⟩
def mm_V_isOn : xa_M := (⟨"NotedVolume", "isOn", "()Z"⟩, prog_1_method_25_code, 1, (some .boolean), [])
theorem ok_V_isOn : xa_O mm_V_isOn := ⟨by decide, Or.inr ⟨rfl, iw_420⟩, iw_1, by decide, by decide⟩
def mm_V_isOrLiesIn : xa_M := (⟨"NotedVolume", "isOrLiesIn", "(II)Z"⟩, prog_1_method_33_code, 6, (some .boolean), [])
theorem ok_V_isOrLiesIn : xa_O mm_V_isOrLiesIn := ⟨by decide, Or.inr ⟨rfl, iw_881⟩, iw_1, by decide, by decide⟩
def mm_V_list : xa_M := (⟨"NotedVolume", "list", "(I)V"⟩, prog_1_method_17_code, 2, none, [])
theorem ok_V_list : xa_O mm_V_list := ⟨by decide, Or.inr ⟨rfl, iw_986⟩, iw_1, by decide, by decide⟩
def mm_V_live : xa_M := (⟨"NotedVolume", "live", "()I"⟩, prog_1_method_10_code, 1, (some .int), [])
theorem ok_V_live : xa_O mm_V_live := ⟨by decide, Or.inr ⟨rfl, iw_202⟩, iw_1, by decide, by decide⟩
def mm_V_liveEntry : xa_M := (⟨"NotedVolume", "liveEntry", "(I)LNotedVolume$Entry;"⟩, prog_1_method_31_code, 3, (some (.object "NotedVolume$Entry")), [])
theorem ok_V_liveEntry : xa_O mm_V_liveEntry := ⟨by decide, Or.inr ⟨rfl, iw_533⟩, iw_1, by decide, by decide⟩
def mm_V_make : xa_M := (⟨"NotedVolume", "make", "(IZI)I"⟩, prog_1_method_2_code, 5, (some .int), [])
theorem ok_V_make : xa_O mm_V_make := ⟨by decide, Or.inr ⟨rfl, iw_431⟩, iw_1, by decide, by decide⟩
def mm_V_note : xa_M := (⟨"NotedVolume", "note", "(II)I"⟩, prog_1_method_13_code, 4, (some .int), [])
theorem ok_V_note : xa_O mm_V_note := ⟨by decide, Or.inr ⟨rfl, iw_933⟩, iw_1, by decide, by decide⟩
def mm_V_noteAndDo : xa_M := (⟨"NotedVolume", "noteAndDo", "(LNotedVolume$Entry;I)Z"⟩, prog_1_method_35_code, 3, (some .boolean), [])
theorem ok_V_noteAndDo : xa_O mm_V_noteAndDo := ⟨by decide, Or.inr ⟨rfl, iw_574⟩, iw_1, by decide, by decide⟩
def mm_V_of : xa_M := (⟨"NotedVolume", "of", "(II)I"⟩, prog_1_method_8_code, 4, (some .int), [])
theorem ok_V_of : xa_O mm_V_of := ⟨by decide, Or.inr ⟨rfl, iw_916⟩, iw_1, by decide, by decide⟩
def mm_V_open : xa_M := (⟨"NotedVolume", "open", "()I"⟩, prog_1_method_7_code, 1, (some .int), [])
theorem ok_V_open : xa_O mm_V_open := ⟨by decide, Or.inr ⟨rfl, iw_166⟩, iw_1, by decide, by decide⟩
def mm_V_page : xa_M := (⟨"NotedVolume", "page", "(I)I"⟩, prog_1_method_18_code, 3, (some .int), [])
theorem ok_V_page : xa_O mm_V_page := ⟨by decide, Or.inr ⟨rfl, iw_997⟩, iw_1, by decide, by decide⟩
def mm_V_read : xa_M := (⟨"NotedVolume", "read", "(I)I"⟩, prog_1_method_16_code, 3, (some .int), [])
theorem ok_V_read : xa_O mm_V_read := ⟨by decide, Or.inr ⟨rfl, iw_972⟩, iw_1, by decide, by decide⟩
def mm_V_remove : xa_M := (⟨"NotedVolume", "remove", "(I)Z"⟩, prog_1_method_5_code, 3, (some .boolean), [])
theorem ok_V_remove : xa_O mm_V_remove := ⟨by decide, Or.inr ⟨rfl, iw_889⟩, iw_1, by decide, by decide⟩
def mm_V_rename : xa_M := (⟨"NotedVolume", "rename", "(III)Z"⟩, prog_1_method_4_code, 7, (some .boolean), [])
theorem ok_V_rename : xa_O mm_V_rename := ⟨by decide, Or.inr ⟨rfl, iw_877⟩, iw_1, by decide, by decide⟩
def mm_V_shown : xa_M := (⟨"NotedVolume", "shown", "(II)I"⟩, prog_1_method_19_code, 4, (some .int), [])
theorem ok_V_shown : xa_O mm_V_shown := ⟨by decide, Or.inr ⟨rfl, iw_1013⟩, iw_1, by decide, by decide⟩
def mm_V_spendWrite : xa_M := (⟨"NotedVolume", "spendWrite", "()Z"⟩, prog_1_method_34_code, 1, (some .boolean), [])
theorem ok_V_spendWrite : xa_O mm_V_spendWrite := ⟨by decide, Or.inr ⟨rfl, iw_591⟩, iw_1, by decide, by decide⟩
def mm_V_start : xa_M := (⟨"NotedVolume", "start", "()I"⟩, prog_1_method_24_code, 4, (some .int), [])
theorem ok_V_start : xa_O mm_V_start := ⟨by decide, Or.inr ⟨rfl, iw_226⟩, iw_1, by decide, by decide⟩
def mm_V_subscribe : xa_M := (⟨"NotedVolume", "subscribe", "(II)V"⟩, prog_1_method_14_code, 4, none, [])
theorem ok_V_subscribe : xa_O mm_V_subscribe := ⟨by decide, Or.inr ⟨rfl, iw_947⟩, iw_1, by decide, by decide⟩
def mm_V_subscriberAt : xa_M := (⟨"NotedVolume", "subscriberAt", "(I)LNotedVolume$Subscriber;"⟩, prog_1_method_32_code, 2, (some (.object "NotedVolume$Subscriber")), [])
theorem ok_V_subscriberAt : xa_O mm_V_subscriberAt := ⟨by decide, Or.inr ⟨rfl, iw_951⟩, iw_1, by decide, by decide⟩
def mm_V_tail : xa_M := (⟨"NotedVolume", "tail", "()I"⟩, prog_1_method_11_code, 1, (some .int), [])
theorem ok_V_tail : xa_O mm_V_tail := ⟨by decide, Or.inr ⟨rfl, iw_210⟩, iw_1, by decide, by decide⟩
def mm_V_writeChangeNote : xa_M := (⟨"NotedVolume", "writeChangeNote", "(LNotedVolume$Entry;I)Z"⟩, prog_1_method_36_code, 4, (some .boolean), [])
theorem ok_V_writeChangeNote : xa_O mm_V_writeChangeNote := ⟨by decide, Or.inr ⟨rfl, iw_578⟩, iw_1, by decide, by decide⟩
def mm_V_writeClosingNote : xa_M := (⟨"NotedVolume", "writeClosingNote", "(LNotedVolume$Gathering;)Z"⟩, prog_1_method_37_code, 2, (some .boolean), [])
theorem ok_V_writeClosingNote : xa_O mm_V_writeClosingNote := ⟨by decide, Or.inr ⟨rfl, iw_587⟩, iw_1, by decide, by decide⟩
theorem dd_S_init_0 : decode mm_S_init.2.1 0 = .ok (.aload_n 0, 1) := by decide +kernel
theorem dd_S_init_1 : decode mm_S_init.2.1 1 = .ok (.invokespecial 3, 3) := by decide +kernel
theorem dd_S_init_4 : decode mm_S_init.2.1 4 = .ok (.aload_n 0, 1) := by decide +kernel
theorem dd_S_init_5 : decode mm_S_init.2.1 5 = .ok (.new 9, 3) := by decide +kernel
theorem dd_S_init_8 : decode mm_S_init.2.1 8 = .ok (.dup, 1) := by decide +kernel
theorem dd_S_init_9 : decode mm_S_init.2.1 9 = .ok (.sipush 512, 3) := by decide +kernel
theorem dd_S_init_12 : decode mm_S_init.2.1 12 = .ok (.invokespecial 11, 3) := by decide +kernel
theorem dd_S_init_15 : decode mm_S_init.2.1 15 = .ok (.putfield 14, 3) := by decide +kernel
theorem dd_S_init_18 : decode mm_S_init.2.1 18 = .ok (.aload_n 0, 1) := by decide +kernel
theorem dd_S_init_19 : decode mm_S_init.2.1 19 = .ok (.iconst 4, 1) := by decide +kernel
theorem dd_S_init_20 : decode mm_S_init.2.1 20 = .ok (.newarray .int, 2) := by decide +kernel
theorem dd_S_init_22 : decode mm_S_init.2.1 22 = .ok (.dup, 1) := by decide +kernel
theorem dd_S_init_23 : decode mm_S_init.2.1 23 = .ok (.iconst 0, 1) := by decide +kernel
theorem dd_S_init_24 : decode mm_S_init.2.1 24 = .ok (.iconst (-1), 1) := by decide +kernel
theorem dd_S_init_25 : decode mm_S_init.2.1 25 = .ok (.iastore, 1) := by decide +kernel
theorem dd_S_init_26 : decode mm_S_init.2.1 26 = .ok (.dup, 1) := by decide +kernel
theorem dd_S_init_27 : decode mm_S_init.2.1 27 = .ok (.iconst 1, 1) := by decide +kernel
theorem dd_S_init_28 : decode mm_S_init.2.1 28 = .ok (.iconst (-1), 1) := by decide +kernel
theorem dd_S_init_29 : decode mm_S_init.2.1 29 = .ok (.iastore, 1) := by decide +kernel
theorem dd_S_init_30 : decode mm_S_init.2.1 30 = .ok (.dup, 1) := by decide +kernel
theorem dd_S_init_31 : decode mm_S_init.2.1 31 = .ok (.iconst 2, 1) := by decide +kernel
theorem dd_S_init_32 : decode mm_S_init.2.1 32 = .ok (.iconst (-1), 1) := by decide +kernel
theorem dd_S_init_33 : decode mm_S_init.2.1 33 = .ok (.iastore, 1) := by decide +kernel
theorem dd_S_init_34 : decode mm_S_init.2.1 34 = .ok (.dup, 1) := by decide +kernel
theorem dd_S_init_35 : decode mm_S_init.2.1 35 = .ok (.iconst 3, 1) := by decide +kernel
theorem dd_S_init_36 : decode mm_S_init.2.1 36 = .ok (.iconst (-1), 1) := by decide +kernel
theorem dd_S_init_37 : decode mm_S_init.2.1 37 = .ok (.iastore, 1) := by decide +kernel
theorem dd_S_init_38 : decode mm_S_init.2.1 38 = .ok (.putfield 20, 3) := by decide +kernel
theorem dd_S_init_41 : decode mm_S_init.2.1 41 = .ok (.aload_n 0, 1) := by decide +kernel
theorem dd_S_init_42 : decode mm_S_init.2.1 42 = .ok (.iconst 1, 1) := by decide +kernel
theorem dd_S_init_43 : decode mm_S_init.2.1 43 = .ok (.putfield 24, 3) := by decide +kernel
theorem dd_S_init_46 : decode mm_S_init.2.1 46 = .ok (.aload_n 0, 1) := by decide +kernel
theorem dd_S_init_47 : decode mm_S_init.2.1 47 = .ok (.bipush 127, 2) := by decide +kernel
theorem dd_S_init_49 : decode mm_S_init.2.1 49 = .ok (.putfield 28, 3) := by decide +kernel
theorem dd_S_init_52 : decode mm_S_init.2.1 52 = .ok (.return_, 1) := by decide +kernel
theorem dd_S_act_0 : decode mm_S_act.2.1 0 = .ok (.aload_n 0, 1) := by decide +kernel
theorem dd_S_act_1 : decode mm_S_act.2.1 1 = .ok (.getfield 37, 3) := by decide +kernel
theorem dd_S_act_4 : decode mm_S_act.2.1 4 = .ok (.ifCond .eq 10, 3) := by decide +kernel
theorem dd_S_act_7 : decode mm_S_act.2.1 7 = .ok (.aload_n 0, 1) := by decide +kernel
theorem dd_S_act_8 : decode mm_S_act.2.1 8 = .ok (.aload_n 2, 1) := by decide +kernel
theorem dd_S_act_9 : decode mm_S_act.2.1 9 = .ok (.invokevirtual 66, 3) := by decide +kernel
theorem dd_S_act_12 : decode mm_S_act.2.1 12 = .ok (.iconst 1, 1) := by decide +kernel
theorem dd_S_act_13 : decode mm_S_act.2.1 13 = .ok (.ireturn, 1) := by decide +kernel
theorem dd_S_act_14 : decode mm_S_act.2.1 14 = .ok (.aload_n 0, 1) := by decide +kernel
theorem dd_S_act_15 : decode mm_S_act.2.1 15 = .ok (.aload_n 1, 1) := by decide +kernel
theorem dd_S_act_16 : decode mm_S_act.2.1 16 = .ok (.bipush 127, 2) := by decide +kernel
theorem dd_S_act_18 : decode mm_S_act.2.1 18 = .ok (.invokevirtual 70, 3) := by decide +kernel
theorem dd_S_act_21 : decode mm_S_act.2.1 21 = .ok (.istore_n 3, 1) := by decide +kernel
theorem dd_S_act_22 : decode mm_S_act.2.1 22 = .ok (.iload_n 3, 1) := by decide +kernel
theorem dd_S_act_23 : decode mm_S_act.2.1 23 = .ok (.iconst (-1), 1) := by decide +kernel
theorem dd_S_act_24 : decode mm_S_act.2.1 24 = .ok (.if_icmp .ne 10, 3) := by decide +kernel
theorem dd_S_act_27 : decode mm_S_act.2.1 27 = .ok (.aload_n 0, 1) := by decide +kernel
theorem dd_S_act_28 : decode mm_S_act.2.1 28 = .ok (.aload_n 1, 1) := by decide +kernel
theorem dd_S_act_29 : decode mm_S_act.2.1 29 = .ok (.invokevirtual 74, 3) := by decide +kernel
theorem dd_S_act_32 : decode mm_S_act.2.1 32 = .ok (.iconst 1, 1) := by decide +kernel
theorem dd_S_act_33 : decode mm_S_act.2.1 33 = .ok (.ireturn, 1) := by decide +kernel
theorem dd_S_act_34 : decode mm_S_act.2.1 34 = .ok (.aload_n 1, 1) := by decide +kernel
theorem dd_S_act_35 : decode mm_S_act.2.1 35 = .ok (.iload_n 3, 1) := by decide +kernel
theorem dd_S_act_36 : decode mm_S_act.2.1 36 = .ok (.invokevirtual 44, 3) := by decide +kernel
theorem dd_S_act_39 : decode mm_S_act.2.1 39 = .ok (.astore 4, 2) := by decide +kernel
theorem dd_S_act_41 : decode mm_S_act.2.1 41 = .ok (.aload 4, 2) := by decide +kernel
theorem dd_S_act_43 : decode mm_S_act.2.1 43 = .ok (.ifnonnull 5, 3) := by decide +kernel
theorem dd_S_act_46 : decode mm_S_act.2.1 46 = .ok (.iconst 0, 1) := by decide +kernel
theorem dd_S_act_47 : decode mm_S_act.2.1 47 = .ok (.ireturn, 1) := by decide +kernel
theorem dd_S_act_48 : decode mm_S_act.2.1 48 = .ok (.aload_n 0, 1) := by decide +kernel
theorem dd_S_act_49 : decode mm_S_act.2.1 49 = .ok (.aload 4, 2) := by decide +kernel
theorem dd_S_act_51 : decode mm_S_act.2.1 51 = .ok (.aload_n 2, 1) := by decide +kernel
theorem dd_S_act_52 : decode mm_S_act.2.1 52 = .ok (.invokevirtual 78, 3) := by decide +kernel
theorem dd_S_act_55 : decode mm_S_act.2.1 55 = .ok (.iconst 1, 1) := by decide +kernel
theorem dd_S_act_56 : decode mm_S_act.2.1 56 = .ok (.ireturn, 1) := by decide +kernel
theorem dd_S_beginAnew_0 : decode mm_S_beginAnew.2.1 0 = .ok (.aload_n 0, 1) := by decide +kernel
theorem dd_S_beginAnew_1 : decode mm_S_beginAnew.2.1 1 = .ok (.iload_n 1, 1) := by decide +kernel
theorem dd_S_beginAnew_2 : decode mm_S_beginAnew.2.1 2 = .ok (.putfield 28, 3) := by decide +kernel
theorem dd_S_beginAnew_5 : decode mm_S_beginAnew.2.1 5 = .ok (.aload_n 0, 1) := by decide +kernel
theorem dd_S_beginAnew_6 : decode mm_S_beginAnew.2.1 6 = .ok (.aload_n 2, 1) := by decide +kernel
theorem dd_S_beginAnew_7 : decode mm_S_beginAnew.2.1 7 = .ok (.invokevirtual 31, 3) := by decide +kernel
theorem dd_S_beginAnew_10 : decode mm_S_beginAnew.2.1 10 = .ok (.putfield 24, 3) := by decide +kernel
theorem dd_S_beginAnew_13 : decode mm_S_beginAnew.2.1 13 = .ok (.aload_n 0, 1) := by decide +kernel
theorem dd_S_beginAnew_14 : decode mm_S_beginAnew.2.1 14 = .ok (.iconst 0, 1) := by decide +kernel
theorem dd_S_beginAnew_15 : decode mm_S_beginAnew.2.1 15 = .ok (.putfield 37, 3) := by decide +kernel
theorem dd_S_beginAnew_18 : decode mm_S_beginAnew.2.1 18 = .ok (.iconst 0, 1) := by decide +kernel
theorem dd_S_beginAnew_19 : decode mm_S_beginAnew.2.1 19 = .ok (.istore_n 3, 1) := by decide +kernel
theorem dd_S_beginAnew_20 : decode mm_S_beginAnew.2.1 20 = .ok (.iload_n 3, 1) := by decide +kernel
theorem dd_S_beginAnew_21 : decode mm_S_beginAnew.2.1 21 = .ok (.iconst 4, 1) := by decide +kernel
theorem dd_S_beginAnew_22 : decode mm_S_beginAnew.2.1 22 = .ok (.if_icmp .ge 16, 3) := by decide +kernel
theorem dd_S_beginAnew_25 : decode mm_S_beginAnew.2.1 25 = .ok (.aload_n 0, 1) := by decide +kernel
theorem dd_S_beginAnew_26 : decode mm_S_beginAnew.2.1 26 = .ok (.getfield 20, 3) := by decide +kernel
theorem dd_S_beginAnew_29 : decode mm_S_beginAnew.2.1 29 = .ok (.iload_n 3, 1) := by decide +kernel
theorem dd_S_beginAnew_30 : decode mm_S_beginAnew.2.1 30 = .ok (.iconst (-1), 1) := by decide +kernel
theorem dd_S_beginAnew_31 : decode mm_S_beginAnew.2.1 31 = .ok (.iastore, 1) := by decide +kernel
theorem dd_S_beginAnew_32 : decode mm_S_beginAnew.2.1 32 = .ok (.iinc 3 1, 3) := by decide +kernel
theorem dd_S_beginAnew_35 : decode mm_S_beginAnew.2.1 35 = .ok (.goto (-15), 3) := by decide +kernel
theorem dd_S_beginAnew_38 : decode mm_S_beginAnew.2.1 38 = .ok (.return_, 1) := by decide +kernel
theorem dd_S_beginListing_0 : decode mm_S_beginListing.2.1 0 = .ok (.aload_n 0, 1) := by decide +kernel
theorem dd_S_beginListing_1 : decode mm_S_beginListing.2.1 1 = .ok (.iconst 1, 1) := by decide +kernel
theorem dd_S_beginListing_2 : decode mm_S_beginListing.2.1 2 = .ok (.putfield 37, 3) := by decide +kernel
theorem dd_S_beginListing_5 : decode mm_S_beginListing.2.1 5 = .ok (.aload_n 0, 1) := by decide +kernel
theorem dd_S_beginListing_6 : decode mm_S_beginListing.2.1 6 = .ok (.iconst 0, 1) := by decide +kernel
theorem dd_S_beginListing_7 : decode mm_S_beginListing.2.1 7 = .ok (.putfield 54, 3) := by decide +kernel
theorem dd_S_beginListing_10 : decode mm_S_beginListing.2.1 10 = .ok (.aload_n 0, 1) := by decide +kernel
theorem dd_S_beginListing_11 : decode mm_S_beginListing.2.1 11 = .ok (.aload_n 1, 1) := by decide +kernel
theorem dd_S_beginListing_12 : decode mm_S_beginListing.2.1 12 = .ok (.invokevirtual 31, 3) := by decide +kernel
theorem dd_S_beginListing_15 : decode mm_S_beginListing.2.1 15 = .ok (.putfield 24, 3) := by decide +kernel
theorem dd_S_beginListing_18 : decode mm_S_beginListing.2.1 18 = .ok (.return_, 1) := by decide +kernel
theorem dd_S_copyAsItIs_0 : decode mm_S_copyAsItIs.2.1 0 = .ok (.aload_n 2, 1) := by decide +kernel
theorem dd_S_copyAsItIs_1 : decode mm_S_copyAsItIs.2.1 1 = .ok (.iload_n 1, 1) := by decide +kernel
theorem dd_S_copyAsItIs_2 : decode mm_S_copyAsItIs.2.1 2 = .ok (.invokevirtual 106, 3) := by decide +kernel
theorem dd_S_copyAsItIs_5 : decode mm_S_copyAsItIs.2.1 5 = .ok (.astore_n 3, 1) := by decide +kernel
theorem dd_S_copyAsItIs_6 : decode mm_S_copyAsItIs.2.1 6 = .ok (.aload_n 3, 1) := by decide +kernel
theorem dd_S_copyAsItIs_7 : decode mm_S_copyAsItIs.2.1 7 = .ok (.ifnull 11, 3) := by decide +kernel
theorem dd_S_copyAsItIs_10 : decode mm_S_copyAsItIs.2.1 10 = .ok (.aload_n 0, 1) := by decide +kernel
theorem dd_S_copyAsItIs_11 : decode mm_S_copyAsItIs.2.1 11 = .ok (.getfield 14, 3) := by decide +kernel
theorem dd_S_copyAsItIs_14 : decode mm_S_copyAsItIs.2.1 14 = .ok (.aload_n 3, 1) := by decide +kernel
theorem dd_S_copyAsItIs_15 : decode mm_S_copyAsItIs.2.1 15 = .ok (.invokevirtual 102, 3) := by decide +kernel
theorem dd_S_copyAsItIs_18 : decode mm_S_copyAsItIs.2.1 18 = .ok (.return_, 1) := by decide +kernel
theorem dd_S_copyNote_0 : decode mm_S_copyNote.2.1 0 = .ok (.aload_n 1, 1) := by decide +kernel
theorem dd_S_copyNote_1 : decode mm_S_copyNote.2.1 1 = .ok (.getfield 95, 3) := by decide +kernel
theorem dd_S_copyNote_4 : decode mm_S_copyNote.2.1 4 = .ok (.getfield 61, 3) := by decide +kernel
theorem dd_S_copyNote_7 : decode mm_S_copyNote.2.1 7 = .ok (.istore_n 3, 1) := by decide +kernel
theorem dd_S_copyNote_8 : decode mm_S_copyNote.2.1 8 = .ok (.aload_n 1, 1) := by decide +kernel
theorem dd_S_copyNote_9 : decode mm_S_copyNote.2.1 9 = .ok (.bipush 64, 2) := by decide +kernel
theorem dd_S_copyNote_11 : decode mm_S_copyNote.2.1 11 = .ok (.invokevirtual 48, 3) := by decide +kernel
theorem dd_S_copyNote_14 : decode mm_S_copyNote.2.1 14 = .ok (.ifCond .eq 20, 3) := by decide +kernel
theorem dd_S_copyNote_17 : decode mm_S_copyNote.2.1 17 = .ok (.aload_n 0, 1) := by decide +kernel
theorem dd_S_copyNote_18 : decode mm_S_copyNote.2.1 18 = .ok (.getfield 14, 3) := by decide +kernel
theorem dd_S_copyNote_21 : decode mm_S_copyNote.2.1 21 = .ok (.iload_n 3, 1) := by decide +kernel
theorem dd_S_copyNote_22 : decode mm_S_copyNote.2.1 22 = .ok (.invokevirtual 99, 3) := by decide +kernel
theorem dd_S_copyNote_25 : decode mm_S_copyNote.2.1 25 = .ok (.aload_n 0, 1) := by decide +kernel
theorem dd_S_copyNote_26 : decode mm_S_copyNote.2.1 26 = .ok (.iload_n 3, 1) := by decide +kernel
theorem dd_S_copyNote_27 : decode mm_S_copyNote.2.1 27 = .ok (.aload_n 2, 1) := by decide +kernel
theorem dd_S_copyNote_28 : decode mm_S_copyNote.2.1 28 = .ok (.invokevirtual 91, 3) := by decide +kernel
theorem dd_S_copyNote_31 : decode mm_S_copyNote.2.1 31 = .ok (.goto 34, 3) := by decide +kernel
theorem dd_S_copyNote_34 : decode mm_S_copyNote.2.1 34 = .ok (.aload_n 1, 1) := by decide +kernel
theorem dd_S_copyNote_35 : decode mm_S_copyNote.2.1 35 = .ok (.bipush 32, 2) := by decide +kernel
theorem dd_S_copyNote_37 : decode mm_S_copyNote.2.1 37 = .ok (.invokevirtual 48, 3) := by decide +kernel
theorem dd_S_copyNote_40 : decode mm_S_copyNote.2.1 40 = .ok (.ifCond .eq 14, 3) := by decide +kernel
theorem dd_S_copyNote_43 : decode mm_S_copyNote.2.1 43 = .ok (.aload_n 0, 1) := by decide +kernel
theorem dd_S_copyNote_44 : decode mm_S_copyNote.2.1 44 = .ok (.getfield 14, 3) := by decide +kernel
theorem dd_S_copyNote_47 : decode mm_S_copyNote.2.1 47 = .ok (.iload_n 3, 1) := by decide +kernel
theorem dd_S_copyNote_48 : decode mm_S_copyNote.2.1 48 = .ok (.invokevirtual 99, 3) := by decide +kernel
theorem dd_S_copyNote_51 : decode mm_S_copyNote.2.1 51 = .ok (.goto 14, 3) := by decide +kernel
theorem dd_S_copyNote_54 : decode mm_S_copyNote.2.1 54 = .ok (.aload_n 0, 1) := by decide +kernel
theorem dd_S_copyNote_55 : decode mm_S_copyNote.2.1 55 = .ok (.getfield 14, 3) := by decide +kernel
theorem dd_S_copyNote_58 : decode mm_S_copyNote.2.1 58 = .ok (.aload_n 1, 1) := by decide +kernel
theorem dd_S_copyNote_59 : decode mm_S_copyNote.2.1 59 = .ok (.getfield 95, 3) := by decide +kernel
theorem dd_S_copyNote_62 : decode mm_S_copyNote.2.1 62 = .ok (.invokevirtual 102, 3) := by decide +kernel
theorem dd_S_copyNote_65 : decode mm_S_copyNote.2.1 65 = .ok (.return_, 1) := by decide +kernel
theorem dd_S_copyPage_0 : decode mm_S_copyPage.2.1 0 = .ok (.aload_n 0, 1) := by decide +kernel
theorem dd_S_copyPage_1 : decode mm_S_copyPage.2.1 1 = .ok (.getfield 54, 3) := by decide +kernel
theorem dd_S_copyPage_4 : decode mm_S_copyPage.2.1 4 = .ok (.istore_n 2, 1) := by decide +kernel
theorem dd_S_copyPage_5 : decode mm_S_copyPage.2.1 5 = .ok (.aload_n 0, 1) := by decide +kernel
theorem dd_S_copyPage_6 : decode mm_S_copyPage.2.1 6 = .ok (.aload_n 1, 1) := by decide +kernel
theorem dd_S_copyPage_7 : decode mm_S_copyPage.2.1 7 = .ok (.invokevirtual 82, 3) := by decide +kernel
theorem dd_S_copyPage_10 : decode mm_S_copyPage.2.1 10 = .ok (.pop, 1) := by decide +kernel
theorem dd_S_copyPage_11 : decode mm_S_copyPage.2.1 11 = .ok (.aload_n 0, 1) := by decide +kernel
theorem dd_S_copyPage_12 : decode mm_S_copyPage.2.1 12 = .ok (.getfield 14, 3) := by decide +kernel
theorem dd_S_copyPage_15 : decode mm_S_copyPage.2.1 15 = .ok (.iload_n 2, 1) := by decide +kernel
theorem dd_S_copyPage_16 : decode mm_S_copyPage.2.1 16 = .ok (.aload_n 0, 1) := by decide +kernel
theorem dd_S_copyPage_17 : decode mm_S_copyPage.2.1 17 = .ok (.getfield 37, 3) := by decide +kernel
theorem dd_S_copyPage_20 : decode mm_S_copyPage.2.1 20 = .ok (.ifCond .eq 10, 3) := by decide +kernel
theorem dd_S_copyPage_23 : decode mm_S_copyPage.2.1 23 = .ok (.aload_n 0, 1) := by decide +kernel
theorem dd_S_copyPage_24 : decode mm_S_copyPage.2.1 24 = .ok (.getfield 54, 3) := by decide +kernel
theorem dd_S_copyPage_27 : decode mm_S_copyPage.2.1 27 = .ok (.goto 5, 3) := by decide +kernel
theorem dd_S_copyPage_30 : decode mm_S_copyPage.2.1 30 = .ok (.ldc 86, 2) := by decide +kernel
theorem dd_S_copyPage_32 : decode mm_S_copyPage.2.1 32 = .ok (.invokevirtual 87, 3) := by decide +kernel
theorem dd_S_copyPage_35 : decode mm_S_copyPage.2.1 35 = .ok (.iconst 0, 1) := by decide +kernel
theorem dd_S_copyPage_36 : decode mm_S_copyPage.2.1 36 = .ok (.istore_n 3, 1) := by decide +kernel
theorem dd_S_copyPage_37 : decode mm_S_copyPage.2.1 37 = .ok (.iload_n 3, 1) := by decide +kernel
theorem dd_S_copyPage_38 : decode mm_S_copyPage.2.1 38 = .ok (.iconst 4, 1) := by decide +kernel
theorem dd_S_copyPage_39 : decode mm_S_copyPage.2.1 39 = .ok (.if_icmp .ge 20, 3) := by decide +kernel
theorem dd_S_copyPage_42 : decode mm_S_copyPage.2.1 42 = .ok (.aload_n 0, 1) := by decide +kernel
theorem dd_S_copyPage_43 : decode mm_S_copyPage.2.1 43 = .ok (.aload_n 0, 1) := by decide +kernel
theorem dd_S_copyPage_44 : decode mm_S_copyPage.2.1 44 = .ok (.getfield 20, 3) := by decide +kernel
theorem dd_S_copyPage_47 : decode mm_S_copyPage.2.1 47 = .ok (.iload_n 3, 1) := by decide +kernel
theorem dd_S_copyPage_48 : decode mm_S_copyPage.2.1 48 = .ok (.iaload, 1) := by decide +kernel
theorem dd_S_copyPage_49 : decode mm_S_copyPage.2.1 49 = .ok (.aload_n 1, 1) := by decide +kernel
theorem dd_S_copyPage_50 : decode mm_S_copyPage.2.1 50 = .ok (.invokevirtual 91, 3) := by decide +kernel
theorem dd_S_copyPage_53 : decode mm_S_copyPage.2.1 53 = .ok (.iinc 3 1, 3) := by decide +kernel
theorem dd_S_copyPage_56 : decode mm_S_copyPage.2.1 56 = .ok (.goto (-19), 3) := by decide +kernel
theorem dd_S_copyPage_59 : decode mm_S_copyPage.2.1 59 = .ok (.return_, 1) := by decide +kernel
theorem dd_S_showPage_0 : decode mm_S_showPage.2.1 0 = .ok (.iconst 0, 1) := by decide +kernel
theorem dd_S_showPage_1 : decode mm_S_showPage.2.1 1 = .ok (.istore_n 2, 1) := by decide +kernel
theorem dd_S_showPage_2 : decode mm_S_showPage.2.1 2 = .ok (.iconst 0, 1) := by decide +kernel
theorem dd_S_showPage_3 : decode mm_S_showPage.2.1 3 = .ok (.istore_n 3, 1) := by decide +kernel
theorem dd_S_showPage_4 : decode mm_S_showPage.2.1 4 = .ok (.iload_n 3, 1) := by decide +kernel
theorem dd_S_showPage_5 : decode mm_S_showPage.2.1 5 = .ok (.iconst 4, 1) := by decide +kernel
theorem dd_S_showPage_6 : decode mm_S_showPage.2.1 6 = .ok (.if_icmp .ge 57, 3) := by decide +kernel
theorem dd_S_showPage_9 : decode mm_S_showPage.2.1 9 = .ok (.aload_n 1, 1) := by decide +kernel
theorem dd_S_showPage_10 : decode mm_S_showPage.2.1 10 = .ok (.aload_n 0, 1) := by decide +kernel
theorem dd_S_showPage_11 : decode mm_S_showPage.2.1 11 = .ok (.getfield 54, 3) := by decide +kernel
theorem dd_S_showPage_14 : decode mm_S_showPage.2.1 14 = .ok (.invokevirtual 57, 3) := by decide +kernel
theorem dd_S_showPage_17 : decode mm_S_showPage.2.1 17 = .ok (.astore 4, 2) := by decide +kernel
theorem dd_S_showPage_19 : decode mm_S_showPage.2.1 19 = .ok (.aload 4, 2) := by decide +kernel
theorem dd_S_showPage_21 : decode mm_S_showPage.2.1 21 = .ok (.ifnonnull 13, 3) := by decide +kernel
theorem dd_S_showPage_24 : decode mm_S_showPage.2.1 24 = .ok (.aload_n 0, 1) := by decide +kernel
theorem dd_S_showPage_25 : decode mm_S_showPage.2.1 25 = .ok (.getfield 20, 3) := by decide +kernel
theorem dd_S_showPage_28 : decode mm_S_showPage.2.1 28 = .ok (.iload_n 3, 1) := by decide +kernel
theorem dd_S_showPage_29 : decode mm_S_showPage.2.1 29 = .ok (.iconst (-1), 1) := by decide +kernel
theorem dd_S_showPage_30 : decode mm_S_showPage.2.1 30 = .ok (.iastore, 1) := by decide +kernel
theorem dd_S_showPage_31 : decode mm_S_showPage.2.1 31 = .ok (.goto 26, 3) := by decide +kernel
theorem dd_S_showPage_34 : decode mm_S_showPage.2.1 34 = .ok (.aload_n 0, 1) := by decide +kernel
theorem dd_S_showPage_35 : decode mm_S_showPage.2.1 35 = .ok (.getfield 20, 3) := by decide +kernel
theorem dd_S_showPage_38 : decode mm_S_showPage.2.1 38 = .ok (.iload_n 3, 1) := by decide +kernel
theorem dd_S_showPage_39 : decode mm_S_showPage.2.1 39 = .ok (.aload 4, 2) := by decide +kernel
theorem dd_S_showPage_41 : decode mm_S_showPage.2.1 41 = .ok (.getfield 61, 3) := by decide +kernel
theorem dd_S_showPage_44 : decode mm_S_showPage.2.1 44 = .ok (.iastore, 1) := by decide +kernel
theorem dd_S_showPage_45 : decode mm_S_showPage.2.1 45 = .ok (.aload_n 0, 1) := by decide +kernel
theorem dd_S_showPage_46 : decode mm_S_showPage.2.1 46 = .ok (.aload 4, 2) := by decide +kernel
theorem dd_S_showPage_48 : decode mm_S_showPage.2.1 48 = .ok (.getfield 61, 3) := by decide +kernel
theorem dd_S_showPage_51 : decode mm_S_showPage.2.1 51 = .ok (.putfield 54, 3) := by decide +kernel
theorem dd_S_showPage_54 : decode mm_S_showPage.2.1 54 = .ok (.iinc 2 1, 3) := by decide +kernel
theorem dd_S_showPage_57 : decode mm_S_showPage.2.1 57 = .ok (.iinc 3 1, 3) := by decide +kernel
theorem dd_S_showPage_60 : decode mm_S_showPage.2.1 60 = .ok (.goto (-56), 3) := by decide +kernel
theorem dd_S_showPage_63 : decode mm_S_showPage.2.1 63 = .ok (.aload_n 0, 1) := by decide +kernel
theorem dd_S_showPage_64 : decode mm_S_showPage.2.1 64 = .ok (.iload_n 2, 1) := by decide +kernel
theorem dd_S_showPage_65 : decode mm_S_showPage.2.1 65 = .ok (.iconst 4, 1) := by decide +kernel
theorem dd_S_showPage_66 : decode mm_S_showPage.2.1 66 = .ok (.if_icmp .ne 7, 3) := by decide +kernel
theorem dd_S_showPage_69 : decode mm_S_showPage.2.1 69 = .ok (.iconst 1, 1) := by decide +kernel
theorem dd_S_showPage_70 : decode mm_S_showPage.2.1 70 = .ok (.goto 4, 3) := by decide +kernel
theorem dd_S_showPage_73 : decode mm_S_showPage.2.1 73 = .ok (.iconst 0, 1) := by decide +kernel
theorem dd_S_showPage_74 : decode mm_S_showPage.2.1 74 = .ok (.putfield 37, 3) := by decide +kernel
theorem dd_S_showPage_77 : decode mm_S_showPage.2.1 77 = .ok (.iload_n 2, 1) := by decide +kernel
theorem dd_S_showPage_78 : decode mm_S_showPage.2.1 78 = .ok (.ireturn, 1) := by decide +kernel
theorem dd_S_takeNote_0 : decode mm_S_takeNote.2.1 0 = .ok (.aload_n 0, 1) := by decide +kernel
theorem dd_S_takeNote_1 : decode mm_S_takeNote.2.1 1 = .ok (.getfield 24, 3) := by decide +kernel
theorem dd_S_takeNote_4 : decode mm_S_takeNote.2.1 4 = .ok (.aload_n 1, 1) := by decide +kernel
theorem dd_S_takeNote_5 : decode mm_S_takeNote.2.1 5 = .ok (.invokevirtual 41, 3) := by decide +kernel
theorem dd_S_takeNote_8 : decode mm_S_takeNote.2.1 8 = .ok (.if_icmp .ge 5, 3) := by decide +kernel
theorem dd_S_takeNote_11 : decode mm_S_takeNote.2.1 11 = .ok (.iconst (-1), 1) := by decide +kernel
theorem dd_S_takeNote_12 : decode mm_S_takeNote.2.1 12 = .ok (.ireturn, 1) := by decide +kernel
theorem dd_S_takeNote_13 : decode mm_S_takeNote.2.1 13 = .ok (.aload_n 0, 1) := by decide +kernel
theorem dd_S_takeNote_14 : decode mm_S_takeNote.2.1 14 = .ok (.getfield 24, 3) := by decide +kernel
theorem dd_S_takeNote_17 : decode mm_S_takeNote.2.1 17 = .ok (.istore_n 3, 1) := by decide +kernel
theorem dd_S_takeNote_18 : decode mm_S_takeNote.2.1 18 = .ok (.iload_n 3, 1) := by decide +kernel
theorem dd_S_takeNote_19 : decode mm_S_takeNote.2.1 19 = .ok (.aload_n 1, 1) := by decide +kernel
theorem dd_S_takeNote_20 : decode mm_S_takeNote.2.1 20 = .ok (.invokevirtual 31, 3) := by decide +kernel
theorem dd_S_takeNote_23 : decode mm_S_takeNote.2.1 23 = .ok (.if_icmp .ge 39, 3) := by decide +kernel
theorem dd_S_takeNote_26 : decode mm_S_takeNote.2.1 26 = .ok (.aload_n 1, 1) := by decide +kernel
theorem dd_S_takeNote_27 : decode mm_S_takeNote.2.1 27 = .ok (.iload_n 3, 1) := by decide +kernel
theorem dd_S_takeNote_28 : decode mm_S_takeNote.2.1 28 = .ok (.invokevirtual 44, 3) := by decide +kernel
theorem dd_S_takeNote_31 : decode mm_S_takeNote.2.1 31 = .ok (.astore 4, 2) := by decide +kernel
theorem dd_S_takeNote_33 : decode mm_S_takeNote.2.1 33 = .ok (.aload 4, 2) := by decide +kernel
theorem dd_S_takeNote_35 : decode mm_S_takeNote.2.1 35 = .ok (.ifnull 21, 3) := by decide +kernel
theorem dd_S_takeNote_38 : decode mm_S_takeNote.2.1 38 = .ok (.aload 4, 2) := by decide +kernel
theorem dd_S_takeNote_40 : decode mm_S_takeNote.2.1 40 = .ok (.iload_n 2, 1) := by decide +kernel
theorem dd_S_takeNote_41 : decode mm_S_takeNote.2.1 41 = .ok (.invokevirtual 48, 3) := by decide +kernel
theorem dd_S_takeNote_44 : decode mm_S_takeNote.2.1 44 = .ok (.ifCond .eq 12, 3) := by decide +kernel
theorem dd_S_takeNote_47 : decode mm_S_takeNote.2.1 47 = .ok (.aload_n 0, 1) := by decide +kernel
theorem dd_S_takeNote_48 : decode mm_S_takeNote.2.1 48 = .ok (.iload_n 3, 1) := by decide +kernel
theorem dd_S_takeNote_49 : decode mm_S_takeNote.2.1 49 = .ok (.iconst 1, 1) := by decide +kernel
theorem dd_S_takeNote_50 : decode mm_S_takeNote.2.1 50 = .ok (.iadd, 1) := by decide +kernel
theorem dd_S_takeNote_51 : decode mm_S_takeNote.2.1 51 = .ok (.putfield 24, 3) := by decide +kernel
theorem dd_S_takeNote_54 : decode mm_S_takeNote.2.1 54 = .ok (.iload_n 3, 1) := by decide +kernel
theorem dd_S_takeNote_55 : decode mm_S_takeNote.2.1 55 = .ok (.ireturn, 1) := by decide +kernel
theorem dd_S_takeNote_56 : decode mm_S_takeNote.2.1 56 = .ok (.iinc 3 1, 3) := by decide +kernel
theorem dd_S_takeNote_59 : decode mm_S_takeNote.2.1 59 = .ok (.goto (-41), 3) := by decide +kernel
theorem dd_S_takeNote_62 : decode mm_S_takeNote.2.1 62 = .ok (.aload_n 0, 1) := by decide +kernel
theorem dd_S_takeNote_63 : decode mm_S_takeNote.2.1 63 = .ok (.aload_n 1, 1) := by decide +kernel
theorem dd_S_takeNote_64 : decode mm_S_takeNote.2.1 64 = .ok (.invokevirtual 31, 3) := by decide +kernel
theorem dd_S_takeNote_67 : decode mm_S_takeNote.2.1 67 = .ok (.putfield 24, 3) := by decide +kernel
theorem dd_S_takeNote_70 : decode mm_S_takeNote.2.1 70 = .ok (.iconst 0, 1) := by decide +kernel
theorem dd_S_takeNote_71 : decode mm_S_takeNote.2.1 71 = .ok (.ireturn, 1) := by decide +kernel
theorem dd_V_init_0 : decode mm_V_init.2.1 0 = .ok (.aload_n 0, 1) := by decide +kernel
theorem dd_V_init_1 : decode mm_V_init.2.1 1 = .ok (.invokespecial 1, 3) := by decide +kernel
theorem dd_V_init_4 : decode mm_V_init.2.1 4 = .ok (.aload_n 0, 1) := by decide +kernel
theorem dd_V_init_5 : decode mm_V_init.2.1 5 = .ok (.new 7, 3) := by decide +kernel
theorem dd_V_init_8 : decode mm_V_init.2.1 8 = .ok (.dup, 1) := by decide +kernel
theorem dd_V_init_9 : decode mm_V_init.2.1 9 = .ok (.bipush 20, 2) := by decide +kernel
theorem dd_V_init_11 : decode mm_V_init.2.1 11 = .ok (.invokespecial 11, 3) := by decide +kernel
theorem dd_V_init_14 : decode mm_V_init.2.1 14 = .ok (.putfield 14, 3) := by decide +kernel
theorem dd_V_init_17 : decode mm_V_init.2.1 17 = .ok (.aload_n 0, 1) := by decide +kernel
theorem dd_V_init_18 : decode mm_V_init.2.1 18 = .ok (.new 18, 3) := by decide +kernel
theorem dd_V_init_21 : decode mm_V_init.2.1 21 = .ok (.dup, 1) := by decide +kernel
theorem dd_V_init_22 : decode mm_V_init.2.1 22 = .ok (.invokespecial 20, 3) := by decide +kernel
theorem dd_V_init_25 : decode mm_V_init.2.1 25 = .ok (.putfield 21, 3) := by decide +kernel
theorem dd_V_init_28 : decode mm_V_init.2.1 28 = .ok (.aload_n 0, 1) := by decide +kernel
theorem dd_V_init_29 : decode mm_V_init.2.1 29 = .ok (.new 25, 3) := by decide +kernel
theorem dd_V_init_32 : decode mm_V_init.2.1 32 = .ok (.dup, 1) := by decide +kernel
theorem dd_V_init_33 : decode mm_V_init.2.1 33 = .ok (.invokespecial 27, 3) := by decide +kernel
theorem dd_V_init_36 : decode mm_V_init.2.1 36 = .ok (.putfield 28, 3) := by decide +kernel
theorem dd_V_init_39 : decode mm_V_init.2.1 39 = .ok (.aload_n 0, 1) := by decide +kernel
theorem dd_V_init_40 : decode mm_V_init.2.1 40 = .ok (.iconst 3, 1) := by decide +kernel
theorem dd_V_init_41 : decode mm_V_init.2.1 41 = .ok (.anewarray 32, 3) := by decide +kernel
theorem dd_V_init_44 : decode mm_V_init.2.1 44 = .ok (.putfield 34, 3) := by decide +kernel
theorem dd_V_init_47 : decode mm_V_init.2.1 47 = .ok (.iconst 0, 1) := by decide +kernel
theorem dd_V_init_48 : decode mm_V_init.2.1 48 = .ok (.istore_n 1, 1) := by decide +kernel
theorem dd_V_init_49 : decode mm_V_init.2.1 49 = .ok (.iload_n 1, 1) := by decide +kernel
theorem dd_V_init_50 : decode mm_V_init.2.1 50 = .ok (.iconst 3, 1) := by decide +kernel
theorem dd_V_init_51 : decode mm_V_init.2.1 51 = .ok (.if_icmp .ge 22, 3) := by decide +kernel
theorem dd_V_init_54 : decode mm_V_init.2.1 54 = .ok (.aload_n 0, 1) := by decide +kernel
theorem dd_V_init_55 : decode mm_V_init.2.1 55 = .ok (.getfield 34, 3) := by decide +kernel
theorem dd_V_init_58 : decode mm_V_init.2.1 58 = .ok (.iload_n 1, 1) := by decide +kernel
theorem dd_V_init_59 : decode mm_V_init.2.1 59 = .ok (.new 32, 3) := by decide +kernel
theorem dd_V_init_62 : decode mm_V_init.2.1 62 = .ok (.dup, 1) := by decide +kernel
theorem dd_V_init_63 : decode mm_V_init.2.1 63 = .ok (.invokespecial 38, 3) := by decide +kernel
theorem dd_V_init_66 : decode mm_V_init.2.1 66 = .ok (.aastore, 1) := by decide +kernel
theorem dd_V_init_67 : decode mm_V_init.2.1 67 = .ok (.iinc 1 1, 3) := by decide +kernel
theorem dd_V_init_70 : decode mm_V_init.2.1 70 = .ok (.goto (-21), 3) := by decide +kernel
theorem dd_V_init_73 : decode mm_V_init.2.1 73 = .ok (.aload_n 0, 1) := by decide +kernel
theorem dd_V_init_74 : decode mm_V_init.2.1 74 = .ok (.iconst 1, 1) := by decide +kernel
theorem dd_V_init_75 : decode mm_V_init.2.1 75 = .ok (.putfield 39, 3) := by decide +kernel
theorem dd_V_init_78 : decode mm_V_init.2.1 78 = .ok (.aload_n 0, 1) := by decide +kernel
theorem dd_V_init_79 : decode mm_V_init.2.1 79 = .ok (.iconst 1, 1) := by decide +kernel
theorem dd_V_init_80 : decode mm_V_init.2.1 80 = .ok (.putfield 43, 3) := by decide +kernel
theorem dd_V_init_83 : decode mm_V_init.2.1 83 = .ok (.aload_n 0, 1) := by decide +kernel
theorem dd_V_init_84 : decode mm_V_init.2.1 84 = .ok (.iconst (-1), 1) := by decide +kernel
theorem dd_V_init_85 : decode mm_V_init.2.1 85 = .ok (.putfield 47, 3) := by decide +kernel
theorem dd_V_init_88 : decode mm_V_init.2.1 88 = .ok (.return_, 1) := by decide +kernel
theorem dd_V_change_0 : decode mm_V_change.2.1 0 = .ok (.aload_n 0, 1) := by decide +kernel
theorem dd_V_change_1 : decode mm_V_change.2.1 1 = .ok (.invokevirtual 50, 3) := by decide +kernel
theorem dd_V_change_4 : decode mm_V_change.2.1 4 = .ok (.aload_n 0, 1) := by decide +kernel
theorem dd_V_change_5 : decode mm_V_change.2.1 5 = .ok (.iload_n 1, 1) := by decide +kernel
theorem dd_V_change_6 : decode mm_V_change.2.1 6 = .ok (.invokevirtual 86, 3) := by decide +kernel
theorem dd_V_change_9 : decode mm_V_change.2.1 9 = .ok (.astore_n 2, 1) := by decide +kernel
theorem dd_V_change_10 : decode mm_V_change.2.1 10 = .ok (.aload_n 2, 1) := by decide +kernel
theorem dd_V_change_11 : decode mm_V_change.2.1 11 = .ok (.getfield 90, 3) := by decide +kernel
theorem dd_V_change_14 : decode mm_V_change.2.1 14 = .ok (.iconst 1, 1) := by decide +kernel
theorem dd_V_change_15 : decode mm_V_change.2.1 15 = .ok (.if_icmp .ne 13, 3) := by decide +kernel
theorem dd_V_change_18 : decode mm_V_change.2.1 18 = .ok (.new 93, 3) := by decide +kernel
theorem dd_V_change_21 : decode mm_V_change.2.1 21 = .ok (.dup, 1) := by decide +kernel
theorem dd_V_change_22 : decode mm_V_change.2.1 22 = .ok (.ldc 95, 2) := by decide +kernel
theorem dd_V_change_24 : decode mm_V_change.2.1 24 = .ok (.invokespecial 97, 3) := by decide +kernel
theorem dd_V_change_27 : decode mm_V_change.2.1 27 = .ok (.athrow, 1) := by decide +kernel
theorem dd_V_change_28 : decode mm_V_change.2.1 28 = .ok (.new 74, 3) := by decide +kernel
theorem dd_V_change_31 : decode mm_V_change.2.1 31 = .ok (.dup, 1) := by decide +kernel
theorem dd_V_change_32 : decode mm_V_change.2.1 32 = .ok (.iload_n 1, 1) := by decide +kernel
theorem dd_V_change_33 : decode mm_V_change.2.1 33 = .ok (.aload_n 2, 1) := by decide +kernel
theorem dd_V_change_34 : decode mm_V_change.2.1 34 = .ok (.getfield 90, 3) := by decide +kernel
theorem dd_V_change_37 : decode mm_V_change.2.1 37 = .ok (.aload_n 2, 1) := by decide +kernel
theorem dd_V_change_38 : decode mm_V_change.2.1 38 = .ok (.getfield 98, 3) := by decide +kernel
theorem dd_V_change_41 : decode mm_V_change.2.1 41 = .ok (.aload_n 2, 1) := by decide +kernel
theorem dd_V_change_42 : decode mm_V_change.2.1 42 = .ok (.getfield 101, 3) := by decide +kernel
theorem dd_V_change_45 : decode mm_V_change.2.1 45 = .ok (.aload_n 2, 1) := by decide +kernel
theorem dd_V_change_46 : decode mm_V_change.2.1 46 = .ok (.getfield 104, 3) := by decide +kernel
theorem dd_V_change_49 : decode mm_V_change.2.1 49 = .ok (.iconst 1, 1) := by decide +kernel
theorem dd_V_change_50 : decode mm_V_change.2.1 50 = .ok (.iadd, 1) := by decide +kernel
theorem dd_V_change_51 : decode mm_V_change.2.1 51 = .ok (.invokespecial 76, 3) := by decide +kernel
theorem dd_V_change_54 : decode mm_V_change.2.1 54 = .ok (.astore_n 3, 1) := by decide +kernel
theorem dd_V_change_55 : decode mm_V_change.2.1 55 = .ok (.aload_n 0, 1) := by decide +kernel
theorem dd_V_change_56 : decode mm_V_change.2.1 56 = .ok (.aload_n 3, 1) := by decide +kernel
theorem dd_V_change_57 : decode mm_V_change.2.1 57 = .ok (.iconst 2, 1) := by decide +kernel
theorem dd_V_change_58 : decode mm_V_change.2.1 58 = .ok (.invokevirtual 79, 3) := by decide +kernel
theorem dd_V_change_61 : decode mm_V_change.2.1 61 = .ok (.ifCond .eq 10, 3) := by decide +kernel
theorem dd_V_change_64 : decode mm_V_change.2.1 64 = .ok (.aload_n 3, 1) := by decide +kernel
theorem dd_V_change_65 : decode mm_V_change.2.1 65 = .ok (.getfield 104, 3) := by decide +kernel
theorem dd_V_change_68 : decode mm_V_change.2.1 68 = .ok (.goto 5, 3) := by decide +kernel
theorem dd_V_change_71 : decode mm_V_change.2.1 71 = .ok (.bipush (-2), 2) := by decide +kernel
theorem dd_V_change_73 : decode mm_V_change.2.1 73 = .ok (.ireturn, 1) := by decide +kernel
theorem dd_V_checkFolder_0 : decode mm_V_checkFolder.2.1 0 = .ok (.iload_n 1, 1) := by decide +kernel
theorem dd_V_checkFolder_1 : decode mm_V_checkFolder.2.1 1 = .ok (.ifCond .ne 4, 3) := by decide +kernel
theorem dd_V_checkFolder_4 : decode mm_V_checkFolder.2.1 4 = .ok (.return_, 1) := by decide +kernel
theorem dd_V_checkFolder_5 : decode mm_V_checkFolder.2.1 5 = .ok (.aload_n 0, 1) := by decide +kernel
theorem dd_V_checkFolder_6 : decode mm_V_checkFolder.2.1 6 = .ok (.iload_n 1, 1) := by decide +kernel
theorem dd_V_checkFolder_7 : decode mm_V_checkFolder.2.1 7 = .ok (.invokevirtual 86, 3) := by decide +kernel
theorem dd_V_checkFolder_10 : decode mm_V_checkFolder.2.1 10 = .ok (.getfield 90, 3) := by decide +kernel
theorem dd_V_checkFolder_13 : decode mm_V_checkFolder.2.1 13 = .ok (.iconst 1, 1) := by decide +kernel
theorem dd_V_checkFolder_14 : decode mm_V_checkFolder.2.1 14 = .ok (.if_icmp .eq 13, 3) := by decide +kernel
theorem dd_V_checkFolder_17 : decode mm_V_checkFolder.2.1 17 = .ok (.new 93, 3) := by decide +kernel
theorem dd_V_checkFolder_20 : decode mm_V_checkFolder.2.1 20 = .ok (.dup, 1) := by decide +kernel
theorem dd_V_checkFolder_21 : decode mm_V_checkFolder.2.1 21 = .ok (.ldc 250, 2) := by decide +kernel
theorem dd_V_checkFolder_23 : decode mm_V_checkFolder.2.1 23 = .ok (.invokespecial 97, 3) := by decide +kernel
theorem dd_V_checkFolder_26 : decode mm_V_checkFolder.2.1 26 = .ok (.athrow, 1) := by decide +kernel
theorem dd_V_checkFolder_27 : decode mm_V_checkFolder.2.1 27 = .ok (.return_, 1) := by decide +kernel
theorem dd_V_checkItem_0 : decode mm_V_checkItem.2.1 0 = .ok (.iload_n 0, 1) := by decide +kernel
theorem dd_V_checkItem_1 : decode mm_V_checkItem.2.1 1 = .ok (.ifCond .lt 8, 3) := by decide +kernel
theorem dd_V_checkItem_4 : decode mm_V_checkItem.2.1 4 = .ok (.iload_n 0, 1) := by decide +kernel
theorem dd_V_checkItem_5 : decode mm_V_checkItem.2.1 5 = .ok (.iload_n 1, 1) := by decide +kernel
theorem dd_V_checkItem_6 : decode mm_V_checkItem.2.1 6 = .ok (.if_icmp .lt 13, 3) := by decide +kernel
theorem dd_V_checkItem_9 : decode mm_V_checkItem.2.1 9 = .ok (.new 245, 3) := by decide +kernel
theorem dd_V_checkItem_12 : decode mm_V_checkItem.2.1 12 = .ok (.dup, 1) := by decide +kernel
theorem dd_V_checkItem_13 : decode mm_V_checkItem.2.1 13 = .ok (.ldc 247, 2) := by decide +kernel
theorem dd_V_checkItem_15 : decode mm_V_checkItem.2.1 15 = .ok (.invokespecial 249, 3) := by decide +kernel
theorem dd_V_checkItem_18 : decode mm_V_checkItem.2.1 18 = .ok (.athrow, 1) := by decide +kernel
theorem dd_V_checkItem_19 : decode mm_V_checkItem.2.1 19 = .ok (.return_, 1) := by decide +kernel
theorem dd_V_checkName_0 : decode mm_V_checkName.2.1 0 = .ok (.iload_n 0, 1) := by decide +kernel
theorem dd_V_checkName_1 : decode mm_V_checkName.2.1 1 = .ok (.ifCond .ne 13, 3) := by decide +kernel
theorem dd_V_checkName_4 : decode mm_V_checkName.2.1 4 = .ok (.new 174, 3) := by decide +kernel
theorem dd_V_checkName_7 : decode mm_V_checkName.2.1 7 = .ok (.dup, 1) := by decide +kernel
theorem dd_V_checkName_8 : decode mm_V_checkName.2.1 8 = .ok (.ldc 243, 2) := by decide +kernel
theorem dd_V_checkName_10 : decode mm_V_checkName.2.1 10 = .ok (.invokespecial 178, 3) := by decide +kernel
theorem dd_V_checkName_13 : decode mm_V_checkName.2.1 13 = .ok (.athrow, 1) := by decide +kernel
theorem dd_V_checkName_14 : decode mm_V_checkName.2.1 14 = .ok (.return_, 1) := by decide +kernel
theorem dd_V_checkNameFree_0 : decode mm_V_checkNameFree.2.1 0 = .ok (.aload_n 0, 1) := by decide +kernel
theorem dd_V_checkNameFree_1 : decode mm_V_checkNameFree.2.1 1 = .ok (.getfield 14, 3) := by decide +kernel
theorem dd_V_checkNameFree_4 : decode mm_V_checkNameFree.2.1 4 = .ok (.iload_n 1, 1) := by decide +kernel
theorem dd_V_checkNameFree_5 : decode mm_V_checkNameFree.2.1 5 = .ok (.iload_n 2, 1) := by decide +kernel
theorem dd_V_checkNameFree_6 : decode mm_V_checkNameFree.2.1 6 = .ok (.invokevirtual 151, 3) := by decide +kernel
theorem dd_V_checkNameFree_9 : decode mm_V_checkNameFree.2.1 9 = .ok (.astore 4, 2) := by decide +kernel
theorem dd_V_checkNameFree_11 : decode mm_V_checkNameFree.2.1 11 = .ok (.aload 4, 2) := by decide +kernel
theorem dd_V_checkNameFree_13 : decode mm_V_checkNameFree.2.1 13 = .ok (.ifnull 22, 3) := by decide +kernel
theorem dd_V_checkNameFree_16 : decode mm_V_checkNameFree.2.1 16 = .ok (.aload 4, 2) := by decide +kernel
theorem dd_V_checkNameFree_18 : decode mm_V_checkNameFree.2.1 18 = .ok (.getfield 83, 3) := by decide +kernel
theorem dd_V_checkNameFree_21 : decode mm_V_checkNameFree.2.1 21 = .ok (.iload_n 3, 1) := by decide +kernel
theorem dd_V_checkNameFree_22 : decode mm_V_checkNameFree.2.1 22 = .ok (.if_icmp .eq 13, 3) := by decide +kernel
theorem dd_V_checkNameFree_25 : decode mm_V_checkNameFree.2.1 25 = .ok (.new 93, 3) := by decide +kernel
theorem dd_V_checkNameFree_28 : decode mm_V_checkNameFree.2.1 28 = .ok (.dup, 1) := by decide +kernel
theorem dd_V_checkNameFree_29 : decode mm_V_checkNameFree.2.1 29 = .ok (.ldc 252, 2) := by decide +kernel
theorem dd_V_checkNameFree_31 : decode mm_V_checkNameFree.2.1 31 = .ok (.invokespecial 97, 3) := by decide +kernel
theorem dd_V_checkNameFree_34 : decode mm_V_checkNameFree.2.1 34 = .ok (.athrow, 1) := by decide +kernel
theorem dd_V_checkNameFree_35 : decode mm_V_checkNameFree.2.1 35 = .ok (.return_, 1) := by decide +kernel
theorem dd_V_checkPower_0 : decode mm_V_checkPower.2.1 0 = .ok (.aload_n 0, 1) := by decide +kernel
theorem dd_V_checkPower_1 : decode mm_V_checkPower.2.1 1 = .ok (.getfield 43, 3) := by decide +kernel
theorem dd_V_checkPower_4 : decode mm_V_checkPower.2.1 4 = .ok (.ifCond .ne 13, 3) := by decide +kernel
theorem dd_V_checkPower_7 : decode mm_V_checkPower.2.1 7 = .ok (.new 57, 3) := by decide +kernel
theorem dd_V_checkPower_10 : decode mm_V_checkPower.2.1 10 = .ok (.dup, 1) := by decide +kernel
theorem dd_V_checkPower_11 : decode mm_V_checkPower.2.1 11 = .ok (.ldc 241, 2) := by decide +kernel
theorem dd_V_checkPower_13 : decode mm_V_checkPower.2.1 13 = .ok (.invokespecial 61, 3) := by decide +kernel
theorem dd_V_checkPower_16 : decode mm_V_checkPower.2.1 16 = .ok (.athrow, 1) := by decide +kernel
theorem dd_V_checkPower_17 : decode mm_V_checkPower.2.1 17 = .ok (.return_, 1) := by decide +kernel
theorem dd_V_close_0 : decode mm_V_close.2.1 0 = .ok (.aload_n 0, 1) := by decide +kernel
theorem dd_V_close_1 : decode mm_V_close.2.1 1 = .ok (.invokevirtual 50, 3) := by decide +kernel
theorem dd_V_close_4 : decode mm_V_close.2.1 4 = .ok (.aload_n 0, 1) := by decide +kernel
theorem dd_V_close_5 : decode mm_V_close.2.1 5 = .ok (.getfield 28, 3) := by decide +kernel
theorem dd_V_close_8 : decode mm_V_close.2.1 8 = .ok (.iload_n 1, 1) := by decide +kernel
theorem dd_V_close_9 : decode mm_V_close.2.1 9 = .ok (.invokevirtual 129, 3) := by decide +kernel
theorem dd_V_close_12 : decode mm_V_close.2.1 12 = .ok (.astore_n 2, 1) := by decide +kernel
theorem dd_V_close_13 : decode mm_V_close.2.1 13 = .ok (.aload_n 2, 1) := by decide +kernel
theorem dd_V_close_14 : decode mm_V_close.2.1 14 = .ok (.ifnonnull 13, 3) := by decide +kernel
theorem dd_V_close_17 : decode mm_V_close.2.1 17 = .ok (.new 133, 3) := by decide +kernel
theorem dd_V_close_20 : decode mm_V_close.2.1 20 = .ok (.dup, 1) := by decide +kernel
theorem dd_V_close_21 : decode mm_V_close.2.1 21 = .ok (.ldc 135, 2) := by decide +kernel
theorem dd_V_close_23 : decode mm_V_close.2.1 23 = .ok (.invokespecial 137, 3) := by decide +kernel
theorem dd_V_close_26 : decode mm_V_close.2.1 26 = .ok (.athrow, 1) := by decide +kernel
theorem dd_V_close_27 : decode mm_V_close.2.1 27 = .ok (.aload_n 0, 1) := by decide +kernel
theorem dd_V_close_28 : decode mm_V_close.2.1 28 = .ok (.aload_n 2, 1) := by decide +kernel
theorem dd_V_close_29 : decode mm_V_close.2.1 29 = .ok (.invokevirtual 138, 3) := by decide +kernel
theorem dd_V_close_32 : decode mm_V_close.2.1 32 = .ok (.ireturn, 1) := by decide +kernel
theorem dd_V_copied_0 : decode mm_V_copied.2.1 0 = .ok (.aload_n 0, 1) := by decide +kernel
theorem dd_V_copied_1 : decode mm_V_copied.2.1 1 = .ok (.iload_n 1, 1) := by decide +kernel
theorem dd_V_copied_2 : decode mm_V_copied.2.1 2 = .ok (.invokevirtual 170, 3) := by decide +kernel
theorem dd_V_copied_5 : decode mm_V_copied.2.1 5 = .ok (.astore 4, 2) := by decide +kernel
theorem dd_V_copied_7 : decode mm_V_copied.2.1 7 = .ok (.iload_n 3, 1) := by decide +kernel
theorem dd_V_copied_8 : decode mm_V_copied.2.1 8 = .ok (.iconst 4, 1) := by decide +kernel
theorem dd_V_copied_9 : decode mm_V_copied.2.1 9 = .ok (.invokestatic 143, 3) := by decide +kernel
theorem dd_V_copied_12 : decode mm_V_copied.2.1 12 = .ok (.aload 4, 2) := by decide +kernel
theorem dd_V_copied_14 : decode mm_V_copied.2.1 14 = .ok (.getfield 216, 3) := by decide +kernel
theorem dd_V_copied_17 : decode mm_V_copied.2.1 17 = .ok (.iload_n 2, 1) := by decide +kernel
theorem dd_V_copied_18 : decode mm_V_copied.2.1 18 = .ok (.invokevirtual 219, 3) := by decide +kernel
theorem dd_V_copied_21 : decode mm_V_copied.2.1 21 = .ok (.astore 5, 2) := by decide +kernel
theorem dd_V_copied_23 : decode mm_V_copied.2.1 23 = .ok (.aload 5, 2) := by decide +kernel
theorem dd_V_copied_25 : decode mm_V_copied.2.1 25 = .ok (.ifnonnull 13, 3) := by decide +kernel
theorem dd_V_copied_28 : decode mm_V_copied.2.1 28 = .ok (.new 133, 3) := by decide +kernel
theorem dd_V_copied_31 : decode mm_V_copied.2.1 31 = .ok (.dup, 1) := by decide +kernel
theorem dd_V_copied_32 : decode mm_V_copied.2.1 32 = .ok (.ldc 222, 2) := by decide +kernel
theorem dd_V_copied_34 : decode mm_V_copied.2.1 34 = .ok (.invokespecial 137, 3) := by decide +kernel
theorem dd_V_copied_37 : decode mm_V_copied.2.1 37 = .ok (.athrow, 1) := by decide +kernel
theorem dd_V_copied_38 : decode mm_V_copied.2.1 38 = .ok (.aload 5, 2) := by decide +kernel
theorem dd_V_copied_40 : decode mm_V_copied.2.1 40 = .ok (.iload_n 3, 1) := by decide +kernel
theorem dd_V_copied_41 : decode mm_V_copied.2.1 41 = .ok (.invokevirtual 147, 3) := by decide +kernel
theorem dd_V_copied_44 : decode mm_V_copied.2.1 44 = .ok (.ireturn, 1) := by decide +kernel
theorem dd_V_cursor_0 : decode mm_V_cursor.2.1 0 = .ok (.aload_n 0, 1) := by decide +kernel
theorem dd_V_cursor_1 : decode mm_V_cursor.2.1 1 = .ok (.iload_n 1, 1) := by decide +kernel
theorem dd_V_cursor_2 : decode mm_V_cursor.2.1 2 = .ok (.invokevirtual 170, 3) := by decide +kernel
theorem dd_V_cursor_5 : decode mm_V_cursor.2.1 5 = .ok (.getfield 183, 3) := by decide +kernel
theorem dd_V_cursor_8 : decode mm_V_cursor.2.1 8 = .ok (.ireturn, 1) := by decide +kernel
theorem dd_V_cutAfter_0 : decode mm_V_cutAfter.2.1 0 = .ok (.iload_n 1, 1) := by decide +kernel
theorem dd_V_cutAfter_1 : decode mm_V_cutAfter.2.1 1 = .ok (.iconst (-1), 1) := by decide +kernel
theorem dd_V_cutAfter_2 : decode mm_V_cutAfter.2.1 2 = .ok (.if_icmp .ge 13, 3) := by decide +kernel
theorem dd_V_cutAfter_5 : decode mm_V_cutAfter.2.1 5 = .ok (.new 174, 3) := by decide +kernel
theorem dd_V_cutAfter_8 : decode mm_V_cutAfter.2.1 8 = .ok (.dup, 1) := by decide +kernel
theorem dd_V_cutAfter_9 : decode mm_V_cutAfter.2.1 9 = .ok (.ldc 228, 2) := by decide +kernel
theorem dd_V_cutAfter_11 : decode mm_V_cutAfter.2.1 11 = .ok (.invokespecial 178, 3) := by decide +kernel
theorem dd_V_cutAfter_14 : decode mm_V_cutAfter.2.1 14 = .ok (.athrow, 1) := by decide +kernel
theorem dd_V_cutAfter_15 : decode mm_V_cutAfter.2.1 15 = .ok (.aload_n 0, 1) := by decide +kernel
theorem dd_V_cutAfter_16 : decode mm_V_cutAfter.2.1 16 = .ok (.iload_n 1, 1) := by decide +kernel
theorem dd_V_cutAfter_17 : decode mm_V_cutAfter.2.1 17 = .ok (.putfield 47, 3) := by decide +kernel
theorem dd_V_cutAfter_20 : decode mm_V_cutAfter.2.1 20 = .ok (.return_, 1) := by decide +kernel
theorem dd_V_endGathering_0 : decode mm_V_endGathering.2.1 0 = .ok (.aload_n 1, 1) := by decide +kernel
theorem dd_V_endGathering_1 : decode mm_V_endGathering.2.1 1 = .ok (.getfield 276, 3) := by decide +kernel
theorem dd_V_endGathering_4 : decode mm_V_endGathering.2.1 4 = .ok (.istore_n 2, 1) := by decide +kernel
theorem dd_V_endGathering_5 : decode mm_V_endGathering.2.1 5 = .ok (.aload_n 0, 1) := by decide +kernel
theorem dd_V_endGathering_6 : decode mm_V_endGathering.2.1 6 = .ok (.getfield 14, 3) := by decide +kernel
theorem dd_V_endGathering_9 : decode mm_V_endGathering.2.1 9 = .ok (.iload_n 2, 1) := by decide +kernel
theorem dd_V_endGathering_10 : decode mm_V_endGathering.2.1 10 = .ok (.invokevirtual 219, 3) := by decide +kernel
theorem dd_V_endGathering_13 : decode mm_V_endGathering.2.1 13 = .ok (.astore_n 3, 1) := by decide +kernel
theorem dd_V_endGathering_14 : decode mm_V_endGathering.2.1 14 = .ok (.aload_n 3, 1) := by decide +kernel
theorem dd_V_endGathering_15 : decode mm_V_endGathering.2.1 15 = .ok (.ifnonnull 16, 3) := by decide +kernel
theorem dd_V_endGathering_18 : decode mm_V_endGathering.2.1 18 = .ok (.new 74, 3) := by decide +kernel
theorem dd_V_endGathering_21 : decode mm_V_endGathering.2.1 21 = .ok (.dup, 1) := by decide +kernel
theorem dd_V_endGathering_22 : decode mm_V_endGathering.2.1 22 = .ok (.iload_n 2, 1) := by decide +kernel
theorem dd_V_endGathering_23 : decode mm_V_endGathering.2.1 23 = .ok (.iconst 0, 1) := by decide +kernel
theorem dd_V_endGathering_24 : decode mm_V_endGathering.2.1 24 = .ok (.iconst 0, 1) := by decide +kernel
theorem dd_V_endGathering_25 : decode mm_V_endGathering.2.1 25 = .ok (.iconst 0, 1) := by decide +kernel
theorem dd_V_endGathering_26 : decode mm_V_endGathering.2.1 26 = .ok (.iconst 0, 1) := by decide +kernel
theorem dd_V_endGathering_27 : decode mm_V_endGathering.2.1 27 = .ok (.invokespecial 76, 3) := by decide +kernel
theorem dd_V_endGathering_30 : decode mm_V_endGathering.2.1 30 = .ok (.astore_n 3, 1) := by decide +kernel
theorem dd_V_endGathering_31 : decode mm_V_endGathering.2.1 31 = .ok (.aload_n 0, 1) := by decide +kernel
theorem dd_V_endGathering_32 : decode mm_V_endGathering.2.1 32 = .ok (.getfield 21, 3) := by decide +kernel
theorem dd_V_endGathering_35 : decode mm_V_endGathering.2.1 35 = .ok (.aload_n 3, 1) := by decide +kernel
theorem dd_V_endGathering_36 : decode mm_V_endGathering.2.1 36 = .ok (.aload_n 1, 1) := by decide +kernel
theorem dd_V_endGathering_37 : decode mm_V_endGathering.2.1 37 = .ok (.getfield 281, 3) := by decide +kernel
theorem dd_V_endGathering_40 : decode mm_V_endGathering.2.1 40 = .ok (.bipush 64, 2) := by decide +kernel
theorem dd_V_endGathering_42 : decode mm_V_endGathering.2.1 42 = .ok (.ior, 1) := by decide +kernel
theorem dd_V_endGathering_43 : decode mm_V_endGathering.2.1 43 = .ok (.invokevirtual 272, 3) := by decide +kernel
theorem dd_V_endGathering_46 : decode mm_V_endGathering.2.1 46 = .ok (.aload_n 0, 1) := by decide +kernel
theorem dd_V_endGathering_47 : decode mm_V_endGathering.2.1 47 = .ok (.getfield 28, 3) := by decide +kernel
theorem dd_V_endGathering_50 : decode mm_V_endGathering.2.1 50 = .ok (.iload_n 2, 1) := by decide +kernel
theorem dd_V_endGathering_51 : decode mm_V_endGathering.2.1 51 = .ok (.invokevirtual 284, 3) := by decide +kernel
theorem dd_V_endGathering_54 : decode mm_V_endGathering.2.1 54 = .ok (.return_, 1) := by decide +kernel
theorem dd_V_find_0 : decode mm_V_find.2.1 0 = .ok (.aload_n 0, 1) := by decide +kernel
theorem dd_V_find_1 : decode mm_V_find.2.1 1 = .ok (.getfield 14, 3) := by decide +kernel
theorem dd_V_find_4 : decode mm_V_find.2.1 4 = .ok (.iload_n 1, 1) := by decide +kernel
theorem dd_V_find_5 : decode mm_V_find.2.1 5 = .ok (.iload_n 2, 1) := by decide +kernel
theorem dd_V_find_6 : decode mm_V_find.2.1 6 = .ok (.invokevirtual 151, 3) := by decide +kernel
theorem dd_V_find_9 : decode mm_V_find.2.1 9 = .ok (.astore_n 3, 1) := by decide +kernel
theorem dd_V_find_10 : decode mm_V_find.2.1 10 = .ok (.aload_n 3, 1) := by decide +kernel
theorem dd_V_find_11 : decode mm_V_find.2.1 11 = .ok (.ifnonnull 7, 3) := by decide +kernel
theorem dd_V_find_14 : decode mm_V_find.2.1 14 = .ok (.iconst (-1), 1) := by decide +kernel
theorem dd_V_find_15 : decode mm_V_find.2.1 15 = .ok (.goto 7, 3) := by decide +kernel
theorem dd_V_find_18 : decode mm_V_find.2.1 18 = .ok (.aload_n 3, 1) := by decide +kernel
theorem dd_V_find_19 : decode mm_V_find.2.1 19 = .ok (.getfield 83, 3) := by decide +kernel
theorem dd_V_find_22 : decode mm_V_find.2.1 22 = .ok (.ireturn, 1) := by decide +kernel
theorem dd_V_follow_0 : decode mm_V_follow.2.1 0 = .ok (.aload_n 0, 1) := by decide +kernel
theorem dd_V_follow_1 : decode mm_V_follow.2.1 1 = .ok (.iload_n 1, 1) := by decide +kernel
theorem dd_V_follow_2 : decode mm_V_follow.2.1 2 = .ok (.invokevirtual 170, 3) := by decide +kernel
theorem dd_V_follow_5 : decode mm_V_follow.2.1 5 = .ok (.astore_n 3, 1) := by decide +kernel
theorem dd_V_follow_6 : decode mm_V_follow.2.1 6 = .ok (.iload_n 2, 1) := by decide +kernel
theorem dd_V_follow_7 : decode mm_V_follow.2.1 7 = .ok (.ifCond .lt 9, 3) := by decide +kernel
theorem dd_V_follow_10 : decode mm_V_follow.2.1 10 = .ok (.iload_n 2, 1) := by decide +kernel
theorem dd_V_follow_11 : decode mm_V_follow.2.1 11 = .ok (.bipush 40, 2) := by decide +kernel
theorem dd_V_follow_13 : decode mm_V_follow.2.1 13 = .ok (.if_icmp .le 13, 3) := by decide +kernel
theorem dd_V_follow_16 : decode mm_V_follow.2.1 16 = .ok (.new 174, 3) := by decide +kernel
theorem dd_V_follow_19 : decode mm_V_follow.2.1 19 = .ok (.dup, 1) := by decide +kernel
theorem dd_V_follow_20 : decode mm_V_follow.2.1 20 = .ok (.ldc 210, 2) := by decide +kernel
theorem dd_V_follow_22 : decode mm_V_follow.2.1 22 = .ok (.invokespecial 178, 3) := by decide +kernel
theorem dd_V_follow_25 : decode mm_V_follow.2.1 25 = .ok (.athrow, 1) := by decide +kernel
theorem dd_V_follow_26 : decode mm_V_follow.2.1 26 = .ok (.iconst 0, 1) := by decide +kernel
theorem dd_V_follow_27 : decode mm_V_follow.2.1 27 = .ok (.istore 4, 2) := by decide +kernel
theorem dd_V_follow_29 : decode mm_V_follow.2.1 29 = .ok (.iconst 0, 1) := by decide +kernel
theorem dd_V_follow_30 : decode mm_V_follow.2.1 30 = .ok (.istore 5, 2) := by decide +kernel
theorem dd_V_follow_32 : decode mm_V_follow.2.1 32 = .ok (.iload 5, 2) := by decide +kernel
theorem dd_V_follow_34 : decode mm_V_follow.2.1 34 = .ok (.iload_n 2, 1) := by decide +kernel
theorem dd_V_follow_35 : decode mm_V_follow.2.1 35 = .ok (.if_icmp .ge 27, 3) := by decide +kernel
theorem dd_V_follow_38 : decode mm_V_follow.2.1 38 = .ok (.aload_n 3, 1) := by decide +kernel
theorem dd_V_follow_39 : decode mm_V_follow.2.1 39 = .ok (.aload_n 0, 1) := by decide +kernel
theorem dd_V_follow_40 : decode mm_V_follow.2.1 40 = .ok (.getfield 21, 3) := by decide +kernel
theorem dd_V_follow_43 : decode mm_V_follow.2.1 43 = .ok (.aload_n 0, 1) := by decide +kernel
theorem dd_V_follow_44 : decode mm_V_follow.2.1 44 = .ok (.getfield 14, 3) := by decide +kernel
theorem dd_V_follow_47 : decode mm_V_follow.2.1 47 = .ok (.invokevirtual 212, 3) := by decide +kernel
theorem dd_V_follow_50 : decode mm_V_follow.2.1 50 = .ok (.ifCond .eq 6, 3) := by decide +kernel
theorem dd_V_follow_53 : decode mm_V_follow.2.1 53 = .ok (.iinc 4 1, 3) := by decide +kernel
theorem dd_V_follow_56 : decode mm_V_follow.2.1 56 = .ok (.iinc 5 1, 3) := by decide +kernel
theorem dd_V_follow_59 : decode mm_V_follow.2.1 59 = .ok (.goto (-27), 3) := by decide +kernel
theorem dd_V_follow_62 : decode mm_V_follow.2.1 62 = .ok (.iload 4, 2) := by decide +kernel
theorem dd_V_follow_64 : decode mm_V_follow.2.1 64 = .ok (.ireturn, 1) := by decide +kernel
theorem dd_V_head_0 : decode mm_V_head.2.1 0 = .ok (.aload_n 0, 1) := by decide +kernel
theorem dd_V_head_1 : decode mm_V_head.2.1 1 = .ok (.getfield 21, 3) := by decide +kernel
theorem dd_V_head_4 : decode mm_V_head.2.1 4 = .ok (.invokevirtual 158, 3) := by decide +kernel
theorem dd_V_head_7 : decode mm_V_head.2.1 7 = .ok (.ireturn, 1) := by decide +kernel
theorem dd_V_inStep_0 : decode mm_V_inStep.2.1 0 = .ok (.aload_n 0, 1) := by decide +kernel
theorem dd_V_inStep_1 : decode mm_V_inStep.2.1 1 = .ok (.iload_n 1, 1) := by decide +kernel
theorem dd_V_inStep_2 : decode mm_V_inStep.2.1 2 = .ok (.invokevirtual 170, 3) := by decide +kernel
theorem dd_V_inStep_5 : decode mm_V_inStep.2.1 5 = .ok (.getfield 216, 3) := by decide +kernel
theorem dd_V_inStep_8 : decode mm_V_inStep.2.1 8 = .ok (.aload_n 0, 1) := by decide +kernel
theorem dd_V_inStep_9 : decode mm_V_inStep.2.1 9 = .ok (.getfield 14, 3) := by decide +kernel
theorem dd_V_inStep_12 : decode mm_V_inStep.2.1 12 = .ok (.invokevirtual 224, 3) := by decide +kernel
theorem dd_V_inStep_15 : decode mm_V_inStep.2.1 15 = .ok (.ireturn, 1) := by decide +kernel
theorem dd_V_isOn_0 : decode mm_V_isOn.2.1 0 = .ok (.aload_n 0, 1) := by decide +kernel
theorem dd_V_isOn_1 : decode mm_V_isOn.2.1 1 = .ok (.getfield 43, 3) := by decide +kernel
theorem dd_V_isOn_4 : decode mm_V_isOn.2.1 4 = .ok (.ireturn, 1) := by decide +kernel
theorem dd_V_isOrLiesIn_0 : decode mm_V_isOrLiesIn.2.1 0 = .ok (.iload_n 1, 1) := by decide +kernel
theorem dd_V_isOrLiesIn_1 : decode mm_V_isOrLiesIn.2.1 1 = .ok (.istore_n 3, 1) := by decide +kernel
theorem dd_V_isOrLiesIn_2 : decode mm_V_isOrLiesIn.2.1 2 = .ok (.iconst 0, 1) := by decide +kernel
theorem dd_V_isOrLiesIn_3 : decode mm_V_isOrLiesIn.2.1 3 = .ok (.istore 4, 2) := by decide +kernel
theorem dd_V_isOrLiesIn_5 : decode mm_V_isOrLiesIn.2.1 5 = .ok (.iload 4, 2) := by decide +kernel
theorem dd_V_isOrLiesIn_7 : decode mm_V_isOrLiesIn.2.1 7 = .ok (.bipush 20, 2) := by decide +kernel
theorem dd_V_isOrLiesIn_9 : decode mm_V_isOrLiesIn.2.1 9 = .ok (.if_icmp .gt 39, 3) := by decide +kernel
theorem dd_V_isOrLiesIn_12 : decode mm_V_isOrLiesIn.2.1 12 = .ok (.iload_n 3, 1) := by decide +kernel
theorem dd_V_isOrLiesIn_13 : decode mm_V_isOrLiesIn.2.1 13 = .ok (.iload_n 2, 1) := by decide +kernel
theorem dd_V_isOrLiesIn_14 : decode mm_V_isOrLiesIn.2.1 14 = .ok (.if_icmp .ne 5, 3) := by decide +kernel
theorem dd_V_isOrLiesIn_17 : decode mm_V_isOrLiesIn.2.1 17 = .ok (.iconst 1, 1) := by decide +kernel
theorem dd_V_isOrLiesIn_18 : decode mm_V_isOrLiesIn.2.1 18 = .ok (.ireturn, 1) := by decide +kernel
theorem dd_V_isOrLiesIn_19 : decode mm_V_isOrLiesIn.2.1 19 = .ok (.aload_n 0, 1) := by decide +kernel
theorem dd_V_isOrLiesIn_20 : decode mm_V_isOrLiesIn.2.1 20 = .ok (.getfield 14, 3) := by decide +kernel
theorem dd_V_isOrLiesIn_23 : decode mm_V_isOrLiesIn.2.1 23 = .ok (.iload_n 3, 1) := by decide +kernel
theorem dd_V_isOrLiesIn_24 : decode mm_V_isOrLiesIn.2.1 24 = .ok (.invokevirtual 219, 3) := by decide +kernel
theorem dd_V_isOrLiesIn_27 : decode mm_V_isOrLiesIn.2.1 27 = .ok (.astore 5, 2) := by decide +kernel
theorem dd_V_isOrLiesIn_29 : decode mm_V_isOrLiesIn.2.1 29 = .ok (.aload 5, 2) := by decide +kernel
theorem dd_V_isOrLiesIn_31 : decode mm_V_isOrLiesIn.2.1 31 = .ok (.ifnonnull 5, 3) := by decide +kernel
theorem dd_V_isOrLiesIn_34 : decode mm_V_isOrLiesIn.2.1 34 = .ok (.iconst 0, 1) := by decide +kernel
theorem dd_V_isOrLiesIn_35 : decode mm_V_isOrLiesIn.2.1 35 = .ok (.ireturn, 1) := by decide +kernel
theorem dd_V_isOrLiesIn_36 : decode mm_V_isOrLiesIn.2.1 36 = .ok (.aload 5, 2) := by decide +kernel
theorem dd_V_isOrLiesIn_38 : decode mm_V_isOrLiesIn.2.1 38 = .ok (.getfield 98, 3) := by decide +kernel
theorem dd_V_isOrLiesIn_41 : decode mm_V_isOrLiesIn.2.1 41 = .ok (.istore_n 3, 1) := by decide +kernel
theorem dd_V_isOrLiesIn_42 : decode mm_V_isOrLiesIn.2.1 42 = .ok (.iinc 4 1, 3) := by decide +kernel
theorem dd_V_isOrLiesIn_45 : decode mm_V_isOrLiesIn.2.1 45 = .ok (.goto (-40), 3) := by decide +kernel
theorem dd_V_isOrLiesIn_48 : decode mm_V_isOrLiesIn.2.1 48 = .ok (.iconst 0, 1) := by decide +kernel
theorem dd_V_isOrLiesIn_49 : decode mm_V_isOrLiesIn.2.1 49 = .ok (.ireturn, 1) := by decide +kernel
theorem dd_V_list_0 : decode mm_V_list.2.1 0 = .ok (.aload_n 0, 1) := by decide +kernel
theorem dd_V_list_1 : decode mm_V_list.2.1 1 = .ok (.iload_n 1, 1) := by decide +kernel
theorem dd_V_list_2 : decode mm_V_list.2.1 2 = .ok (.invokevirtual 170, 3) := by decide +kernel
theorem dd_V_list_5 : decode mm_V_list.2.1 5 = .ok (.aload_n 0, 1) := by decide +kernel
theorem dd_V_list_6 : decode mm_V_list.2.1 6 = .ok (.getfield 21, 3) := by decide +kernel
theorem dd_V_list_9 : decode mm_V_list.2.1 9 = .ok (.invokevirtual 193, 3) := by decide +kernel
theorem dd_V_list_12 : decode mm_V_list.2.1 12 = .ok (.return_, 1) := by decide +kernel
theorem dd_V_live_0 : decode mm_V_live.2.1 0 = .ok (.aload_n 0, 1) := by decide +kernel
theorem dd_V_live_1 : decode mm_V_live.2.1 1 = .ok (.getfield 14, 3) := by decide +kernel
theorem dd_V_live_4 : decode mm_V_live.2.1 4 = .ok (.invokevirtual 53, 3) := by decide +kernel
theorem dd_V_live_7 : decode mm_V_live.2.1 7 = .ok (.ireturn, 1) := by decide +kernel
theorem dd_V_liveEntry_0 : decode mm_V_liveEntry.2.1 0 = .ok (.aload_n 0, 1) := by decide +kernel
theorem dd_V_liveEntry_1 : decode mm_V_liveEntry.2.1 1 = .ok (.getfield 14, 3) := by decide +kernel
theorem dd_V_liveEntry_4 : decode mm_V_liveEntry.2.1 4 = .ok (.iload_n 1, 1) := by decide +kernel
theorem dd_V_liveEntry_5 : decode mm_V_liveEntry.2.1 5 = .ok (.invokevirtual 219, 3) := by decide +kernel
theorem dd_V_liveEntry_8 : decode mm_V_liveEntry.2.1 8 = .ok (.astore_n 2, 1) := by decide +kernel
theorem dd_V_liveEntry_9 : decode mm_V_liveEntry.2.1 9 = .ok (.aload_n 2, 1) := by decide +kernel
theorem dd_V_liveEntry_10 : decode mm_V_liveEntry.2.1 10 = .ok (.ifnonnull 13, 3) := by decide +kernel
theorem dd_V_liveEntry_13 : decode mm_V_liveEntry.2.1 13 = .ok (.new 133, 3) := by decide +kernel
theorem dd_V_liveEntry_16 : decode mm_V_liveEntry.2.1 16 = .ok (.dup, 1) := by decide +kernel
theorem dd_V_liveEntry_17 : decode mm_V_liveEntry.2.1 17 = .ok (.ldc 254, 2) := by decide +kernel
theorem dd_V_liveEntry_19 : decode mm_V_liveEntry.2.1 19 = .ok (.invokespecial 137, 3) := by decide +kernel
theorem dd_V_liveEntry_22 : decode mm_V_liveEntry.2.1 22 = .ok (.athrow, 1) := by decide +kernel
theorem dd_V_liveEntry_23 : decode mm_V_liveEntry.2.1 23 = .ok (.aload_n 2, 1) := by decide +kernel
theorem dd_V_liveEntry_24 : decode mm_V_liveEntry.2.1 24 = .ok (.areturn, 1) := by decide +kernel
theorem dd_V_make_0 : decode mm_V_make.2.1 0 = .ok (.aload_n 0, 1) := by decide +kernel
theorem dd_V_make_1 : decode mm_V_make.2.1 1 = .ok (.invokevirtual 50, 3) := by decide +kernel
theorem dd_V_make_4 : decode mm_V_make.2.1 4 = .ok (.aload_n 0, 1) := by decide +kernel
theorem dd_V_make_5 : decode mm_V_make.2.1 5 = .ok (.getfield 14, 3) := by decide +kernel
theorem dd_V_make_8 : decode mm_V_make.2.1 8 = .ok (.invokevirtual 53, 3) := by decide +kernel
theorem dd_V_make_11 : decode mm_V_make.2.1 11 = .ok (.bipush 20, 2) := by decide +kernel
theorem dd_V_make_13 : decode mm_V_make.2.1 13 = .ok (.if_icmp .lt 13, 3) := by decide +kernel
theorem dd_V_make_16 : decode mm_V_make.2.1 16 = .ok (.new 57, 3) := by decide +kernel
theorem dd_V_make_19 : decode mm_V_make.2.1 19 = .ok (.dup, 1) := by decide +kernel
theorem dd_V_make_20 : decode mm_V_make.2.1 20 = .ok (.ldc 59, 2) := by decide +kernel
theorem dd_V_make_22 : decode mm_V_make.2.1 22 = .ok (.invokespecial 61, 3) := by decide +kernel
theorem dd_V_make_25 : decode mm_V_make.2.1 25 = .ok (.athrow, 1) := by decide +kernel
theorem dd_V_make_26 : decode mm_V_make.2.1 26 = .ok (.iload_n 3, 1) := by decide +kernel
theorem dd_V_make_27 : decode mm_V_make.2.1 27 = .ok (.invokestatic 64, 3) := by decide +kernel
theorem dd_V_make_30 : decode mm_V_make.2.1 30 = .ok (.aload_n 0, 1) := by decide +kernel
theorem dd_V_make_31 : decode mm_V_make.2.1 31 = .ok (.iload_n 1, 1) := by decide +kernel
theorem dd_V_make_32 : decode mm_V_make.2.1 32 = .ok (.invokevirtual 67, 3) := by decide +kernel
theorem dd_V_make_35 : decode mm_V_make.2.1 35 = .ok (.aload_n 0, 1) := by decide +kernel
theorem dd_V_make_36 : decode mm_V_make.2.1 36 = .ok (.iload_n 1, 1) := by decide +kernel
theorem dd_V_make_37 : decode mm_V_make.2.1 37 = .ok (.iload_n 3, 1) := by decide +kernel
theorem dd_V_make_38 : decode mm_V_make.2.1 38 = .ok (.iconst (-1), 1) := by decide +kernel
theorem dd_V_make_39 : decode mm_V_make.2.1 39 = .ok (.invokevirtual 70, 3) := by decide +kernel
theorem dd_V_make_42 : decode mm_V_make.2.1 42 = .ok (.new 74, 3) := by decide +kernel
theorem dd_V_make_45 : decode mm_V_make.2.1 45 = .ok (.dup, 1) := by decide +kernel
theorem dd_V_make_46 : decode mm_V_make.2.1 46 = .ok (.aload_n 0, 1) := by decide +kernel
theorem dd_V_make_47 : decode mm_V_make.2.1 47 = .ok (.getfield 39, 3) := by decide +kernel
theorem dd_V_make_50 : decode mm_V_make.2.1 50 = .ok (.iload_n 2, 1) := by decide +kernel
theorem dd_V_make_51 : decode mm_V_make.2.1 51 = .ok (.ifCond .eq 7, 3) := by decide +kernel
theorem dd_V_make_54 : decode mm_V_make.2.1 54 = .ok (.iconst 1, 1) := by decide +kernel
theorem dd_V_make_55 : decode mm_V_make.2.1 55 = .ok (.goto 4, 3) := by decide +kernel
theorem dd_V_make_58 : decode mm_V_make.2.1 58 = .ok (.iconst 0, 1) := by decide +kernel
theorem dd_V_make_59 : decode mm_V_make.2.1 59 = .ok (.iload_n 1, 1) := by decide +kernel
theorem dd_V_make_60 : decode mm_V_make.2.1 60 = .ok (.iload_n 3, 1) := by decide +kernel
theorem dd_V_make_61 : decode mm_V_make.2.1 61 = .ok (.iconst 0, 1) := by decide +kernel
theorem dd_V_make_62 : decode mm_V_make.2.1 62 = .ok (.invokespecial 76, 3) := by decide +kernel
theorem dd_V_make_65 : decode mm_V_make.2.1 65 = .ok (.astore 4, 2) := by decide +kernel
theorem dd_V_make_67 : decode mm_V_make.2.1 67 = .ok (.aload_n 0, 1) := by decide +kernel
theorem dd_V_make_68 : decode mm_V_make.2.1 68 = .ok (.aload 4, 2) := by decide +kernel
theorem dd_V_make_70 : decode mm_V_make.2.1 70 = .ok (.iconst 1, 1) := by decide +kernel
theorem dd_V_make_71 : decode mm_V_make.2.1 71 = .ok (.invokevirtual 79, 3) := by decide +kernel
theorem dd_V_make_74 : decode mm_V_make.2.1 74 = .ok (.ifCond .ne 6, 3) := by decide +kernel
theorem dd_V_make_77 : decode mm_V_make.2.1 77 = .ok (.bipush (-2), 2) := by decide +kernel
theorem dd_V_make_79 : decode mm_V_make.2.1 79 = .ok (.ireturn, 1) := by decide +kernel
theorem dd_V_make_80 : decode mm_V_make.2.1 80 = .ok (.aload_n 0, 1) := by decide +kernel
theorem dd_V_make_81 : decode mm_V_make.2.1 81 = .ok (.dup, 1) := by decide +kernel
theorem dd_V_make_82 : decode mm_V_make.2.1 82 = .ok (.getfield 39, 3) := by decide +kernel
theorem dd_V_make_85 : decode mm_V_make.2.1 85 = .ok (.iconst 1, 1) := by decide +kernel
theorem dd_V_make_86 : decode mm_V_make.2.1 86 = .ok (.iadd, 1) := by decide +kernel
theorem dd_V_make_87 : decode mm_V_make.2.1 87 = .ok (.putfield 39, 3) := by decide +kernel
theorem dd_V_make_90 : decode mm_V_make.2.1 90 = .ok (.aload 4, 2) := by decide +kernel
theorem dd_V_make_92 : decode mm_V_make.2.1 92 = .ok (.getfield 83, 3) := by decide +kernel
theorem dd_V_make_95 : decode mm_V_make.2.1 95 = .ok (.ireturn, 1) := by decide +kernel
theorem dd_V_note_0 : decode mm_V_note.2.1 0 = .ok (.aload_n 0, 1) := by decide +kernel
theorem dd_V_note_1 : decode mm_V_note.2.1 1 = .ok (.getfield 21, 3) := by decide +kernel
theorem dd_V_note_4 : decode mm_V_note.2.1 4 = .ok (.iload_n 1, 1) := by decide +kernel
theorem dd_V_note_5 : decode mm_V_note.2.1 5 = .ok (.invokevirtual 161, 3) := by decide +kernel
theorem dd_V_note_8 : decode mm_V_note.2.1 8 = .ok (.astore_n 3, 1) := by decide +kernel
theorem dd_V_note_9 : decode mm_V_note.2.1 9 = .ok (.aload_n 3, 1) := by decide +kernel
theorem dd_V_note_10 : decode mm_V_note.2.1 10 = .ok (.ifnonnull 13, 3) := by decide +kernel
theorem dd_V_note_13 : decode mm_V_note.2.1 13 = .ok (.new 133, 3) := by decide +kernel
theorem dd_V_note_16 : decode mm_V_note.2.1 16 = .ok (.dup, 1) := by decide +kernel
theorem dd_V_note_17 : decode mm_V_note.2.1 17 = .ok (.ldc 165, 2) := by decide +kernel
theorem dd_V_note_19 : decode mm_V_note.2.1 19 = .ok (.invokespecial 137, 3) := by decide +kernel
theorem dd_V_note_22 : decode mm_V_note.2.1 22 = .ok (.athrow, 1) := by decide +kernel
theorem dd_V_note_23 : decode mm_V_note.2.1 23 = .ok (.iload_n 2, 1) := by decide +kernel
theorem dd_V_note_24 : decode mm_V_note.2.1 24 = .ok (.bipush 6, 2) := by decide +kernel
theorem dd_V_note_26 : decode mm_V_note.2.1 26 = .ok (.invokestatic 143, 3) := by decide +kernel
theorem dd_V_note_29 : decode mm_V_note.2.1 29 = .ok (.aload_n 3, 1) := by decide +kernel
theorem dd_V_note_30 : decode mm_V_note.2.1 30 = .ok (.iload_n 2, 1) := by decide +kernel
theorem dd_V_note_31 : decode mm_V_note.2.1 31 = .ok (.invokevirtual 167, 3) := by decide +kernel
theorem dd_V_note_34 : decode mm_V_note.2.1 34 = .ok (.ireturn, 1) := by decide +kernel
theorem dd_V_noteAndDo_0 : decode mm_V_noteAndDo.2.1 0 = .ok (.aload_n 0, 1) := by decide +kernel
theorem dd_V_noteAndDo_1 : decode mm_V_noteAndDo.2.1 1 = .ok (.aload_n 1, 1) := by decide +kernel
theorem dd_V_noteAndDo_2 : decode mm_V_noteAndDo.2.1 2 = .ok (.iload_n 2, 1) := by decide +kernel
theorem dd_V_noteAndDo_3 : decode mm_V_noteAndDo.2.1 3 = .ok (.invokevirtual 113, 3) := by decide +kernel
theorem dd_V_noteAndDo_6 : decode mm_V_noteAndDo.2.1 6 = .ok (.ifCond .eq 10, 3) := by decide +kernel
theorem dd_V_noteAndDo_9 : decode mm_V_noteAndDo.2.1 9 = .ok (.aload_n 0, 1) := by decide +kernel
theorem dd_V_noteAndDo_10 : decode mm_V_noteAndDo.2.1 10 = .ok (.invokevirtual 122, 3) := by decide +kernel
theorem dd_V_noteAndDo_13 : decode mm_V_noteAndDo.2.1 13 = .ok (.ifCond .ne 5, 3) := by decide +kernel
theorem dd_V_noteAndDo_16 : decode mm_V_noteAndDo.2.1 16 = .ok (.iconst 0, 1) := by decide +kernel
theorem dd_V_noteAndDo_17 : decode mm_V_noteAndDo.2.1 17 = .ok (.ireturn, 1) := by decide +kernel
theorem dd_V_noteAndDo_18 : decode mm_V_noteAndDo.2.1 18 = .ok (.aload_n 0, 1) := by decide +kernel
theorem dd_V_noteAndDo_19 : decode mm_V_noteAndDo.2.1 19 = .ok (.getfield 14, 3) := by decide +kernel
theorem dd_V_noteAndDo_22 : decode mm_V_noteAndDo.2.1 22 = .ok (.aload_n 1, 1) := by decide +kernel
theorem dd_V_noteAndDo_23 : decode mm_V_noteAndDo.2.1 23 = .ok (.invokevirtual 261, 3) := by decide +kernel
theorem dd_V_noteAndDo_26 : decode mm_V_noteAndDo.2.1 26 = .ok (.iconst 1, 1) := by decide +kernel
theorem dd_V_noteAndDo_27 : decode mm_V_noteAndDo.2.1 27 = .ok (.ireturn, 1) := by decide +kernel
theorem dd_V_of_0 : decode mm_V_of.2.1 0 = .ok (.aload_n 0, 1) := by decide +kernel
theorem dd_V_of_1 : decode mm_V_of.2.1 1 = .ok (.iload_n 1, 1) := by decide +kernel
theorem dd_V_of_2 : decode mm_V_of.2.1 2 = .ok (.invokevirtual 86, 3) := by decide +kernel
theorem dd_V_of_5 : decode mm_V_of.2.1 5 = .ok (.astore_n 3, 1) := by decide +kernel
theorem dd_V_of_6 : decode mm_V_of.2.1 6 = .ok (.iload_n 2, 1) := by decide +kernel
theorem dd_V_of_7 : decode mm_V_of.2.1 7 = .ok (.iconst 4, 1) := by decide +kernel
theorem dd_V_of_8 : decode mm_V_of.2.1 8 = .ok (.invokestatic 143, 3) := by decide +kernel
theorem dd_V_of_11 : decode mm_V_of.2.1 11 = .ok (.aload_n 3, 1) := by decide +kernel
theorem dd_V_of_12 : decode mm_V_of.2.1 12 = .ok (.iload_n 2, 1) := by decide +kernel
theorem dd_V_of_13 : decode mm_V_of.2.1 13 = .ok (.invokevirtual 147, 3) := by decide +kernel
theorem dd_V_of_16 : decode mm_V_of.2.1 16 = .ok (.ireturn, 1) := by decide +kernel
theorem dd_V_open_0 : decode mm_V_open.2.1 0 = .ok (.aload_n 0, 1) := by decide +kernel
theorem dd_V_open_1 : decode mm_V_open.2.1 1 = .ok (.getfield 28, 3) := by decide +kernel
theorem dd_V_open_4 : decode mm_V_open.2.1 4 = .ok (.invokevirtual 142, 3) := by decide +kernel
theorem dd_V_open_7 : decode mm_V_open.2.1 7 = .ok (.ireturn, 1) := by decide +kernel
theorem dd_V_page_0 : decode mm_V_page.2.1 0 = .ok (.aload_n 0, 1) := by decide +kernel
theorem dd_V_page_1 : decode mm_V_page.2.1 1 = .ok (.iload_n 1, 1) := by decide +kernel
theorem dd_V_page_2 : decode mm_V_page.2.1 2 = .ok (.invokevirtual 170, 3) := by decide +kernel
theorem dd_V_page_5 : decode mm_V_page.2.1 5 = .ok (.astore_n 2, 1) := by decide +kernel
theorem dd_V_page_6 : decode mm_V_page.2.1 6 = .ok (.aload_n 2, 1) := by decide +kernel
theorem dd_V_page_7 : decode mm_V_page.2.1 7 = .ok (.getfield 197, 3) := by decide +kernel
theorem dd_V_page_10 : decode mm_V_page.2.1 10 = .ok (.ifCond .ne 13, 3) := by decide +kernel
theorem dd_V_page_13 : decode mm_V_page.2.1 13 = .ok (.new 57, 3) := by decide +kernel
theorem dd_V_page_16 : decode mm_V_page.2.1 16 = .ok (.dup, 1) := by decide +kernel
theorem dd_V_page_17 : decode mm_V_page.2.1 17 = .ok (.ldc 200, 2) := by decide +kernel
theorem dd_V_page_19 : decode mm_V_page.2.1 19 = .ok (.invokespecial 61, 3) := by decide +kernel
theorem dd_V_page_22 : decode mm_V_page.2.1 22 = .ok (.athrow, 1) := by decide +kernel
theorem dd_V_page_23 : decode mm_V_page.2.1 23 = .ok (.aload_n 2, 1) := by decide +kernel
theorem dd_V_page_24 : decode mm_V_page.2.1 24 = .ok (.aload_n 0, 1) := by decide +kernel
theorem dd_V_page_25 : decode mm_V_page.2.1 25 = .ok (.getfield 14, 3) := by decide +kernel
theorem dd_V_page_28 : decode mm_V_page.2.1 28 = .ok (.invokevirtual 202, 3) := by decide +kernel
theorem dd_V_page_31 : decode mm_V_page.2.1 31 = .ok (.ireturn, 1) := by decide +kernel
theorem dd_V_read_0 : decode mm_V_read.2.1 0 = .ok (.aload_n 0, 1) := by decide +kernel
theorem dd_V_read_1 : decode mm_V_read.2.1 1 = .ok (.iload_n 1, 1) := by decide +kernel
theorem dd_V_read_2 : decode mm_V_read.2.1 2 = .ok (.invokevirtual 170, 3) := by decide +kernel
theorem dd_V_read_5 : decode mm_V_read.2.1 5 = .ok (.astore_n 2, 1) := by decide +kernel
theorem dd_V_read_6 : decode mm_V_read.2.1 6 = .ok (.aload_n 2, 1) := by decide +kernel
theorem dd_V_read_7 : decode mm_V_read.2.1 7 = .ok (.aload_n 0, 1) := by decide +kernel
theorem dd_V_read_8 : decode mm_V_read.2.1 8 = .ok (.getfield 21, 3) := by decide +kernel
theorem dd_V_read_11 : decode mm_V_read.2.1 11 = .ok (.aload_n 2, 1) := by decide +kernel
theorem dd_V_read_12 : decode mm_V_read.2.1 12 = .ok (.getfield 186, 3) := by decide +kernel
theorem dd_V_read_15 : decode mm_V_read.2.1 15 = .ok (.invokevirtual 189, 3) := by decide +kernel
theorem dd_V_read_18 : decode mm_V_read.2.1 18 = .ok (.ireturn, 1) := by decide +kernel
theorem dd_V_remove_0 : decode mm_V_remove.2.1 0 = .ok (.aload_n 0, 1) := by decide +kernel
theorem dd_V_remove_1 : decode mm_V_remove.2.1 1 = .ok (.invokevirtual 50, 3) := by decide +kernel
theorem dd_V_remove_4 : decode mm_V_remove.2.1 4 = .ok (.aload_n 0, 1) := by decide +kernel
theorem dd_V_remove_5 : decode mm_V_remove.2.1 5 = .ok (.iload_n 1, 1) := by decide +kernel
theorem dd_V_remove_6 : decode mm_V_remove.2.1 6 = .ok (.invokevirtual 86, 3) := by decide +kernel
theorem dd_V_remove_9 : decode mm_V_remove.2.1 9 = .ok (.astore_n 2, 1) := by decide +kernel
theorem dd_V_remove_10 : decode mm_V_remove.2.1 10 = .ok (.aload_n 0, 1) := by decide +kernel
theorem dd_V_remove_11 : decode mm_V_remove.2.1 11 = .ok (.getfield 14, 3) := by decide +kernel
theorem dd_V_remove_14 : decode mm_V_remove.2.1 14 = .ok (.iload_n 1, 1) := by decide +kernel
theorem dd_V_remove_15 : decode mm_V_remove.2.1 15 = .ok (.invokevirtual 116, 3) := by decide +kernel
theorem dd_V_remove_18 : decode mm_V_remove.2.1 18 = .ok (.ifCond .eq 13, 3) := by decide +kernel
theorem dd_V_remove_21 : decode mm_V_remove.2.1 21 = .ok (.new 93, 3) := by decide +kernel
theorem dd_V_remove_24 : decode mm_V_remove.2.1 24 = .ok (.dup, 1) := by decide +kernel
theorem dd_V_remove_25 : decode mm_V_remove.2.1 25 = .ok (.ldc 120, 2) := by decide +kernel
theorem dd_V_remove_27 : decode mm_V_remove.2.1 27 = .ok (.invokespecial 97, 3) := by decide +kernel
theorem dd_V_remove_30 : decode mm_V_remove.2.1 30 = .ok (.athrow, 1) := by decide +kernel
theorem dd_V_remove_31 : decode mm_V_remove.2.1 31 = .ok (.aload_n 0, 1) := by decide +kernel
theorem dd_V_remove_32 : decode mm_V_remove.2.1 32 = .ok (.aload_n 2, 1) := by decide +kernel
theorem dd_V_remove_33 : decode mm_V_remove.2.1 33 = .ok (.bipush 32, 2) := by decide +kernel
theorem dd_V_remove_35 : decode mm_V_remove.2.1 35 = .ok (.invokevirtual 113, 3) := by decide +kernel
theorem dd_V_remove_38 : decode mm_V_remove.2.1 38 = .ok (.ifCond .eq 10, 3) := by decide +kernel
theorem dd_V_remove_41 : decode mm_V_remove.2.1 41 = .ok (.aload_n 0, 1) := by decide +kernel
theorem dd_V_remove_42 : decode mm_V_remove.2.1 42 = .ok (.invokevirtual 122, 3) := by decide +kernel
theorem dd_V_remove_45 : decode mm_V_remove.2.1 45 = .ok (.ifCond .ne 5, 3) := by decide +kernel
theorem dd_V_remove_48 : decode mm_V_remove.2.1 48 = .ok (.iconst 0, 1) := by decide +kernel
theorem dd_V_remove_49 : decode mm_V_remove.2.1 49 = .ok (.ireturn, 1) := by decide +kernel
theorem dd_V_remove_50 : decode mm_V_remove.2.1 50 = .ok (.aload_n 0, 1) := by decide +kernel
theorem dd_V_remove_51 : decode mm_V_remove.2.1 51 = .ok (.getfield 14, 3) := by decide +kernel
theorem dd_V_remove_54 : decode mm_V_remove.2.1 54 = .ok (.iload_n 1, 1) := by decide +kernel
theorem dd_V_remove_55 : decode mm_V_remove.2.1 55 = .ok (.invokevirtual 126, 3) := by decide +kernel
theorem dd_V_remove_58 : decode mm_V_remove.2.1 58 = .ok (.iconst 1, 1) := by decide +kernel
theorem dd_V_remove_59 : decode mm_V_remove.2.1 59 = .ok (.ireturn, 1) := by decide +kernel
theorem dd_V_rename_0 : decode mm_V_rename.2.1 0 = .ok (.aload_n 0, 1) := by decide +kernel
theorem dd_V_rename_1 : decode mm_V_rename.2.1 1 = .ok (.invokevirtual 50, 3) := by decide +kernel
theorem dd_V_rename_4 : decode mm_V_rename.2.1 4 = .ok (.iload_n 3, 1) := by decide +kernel
theorem dd_V_rename_5 : decode mm_V_rename.2.1 5 = .ok (.invokestatic 64, 3) := by decide +kernel
theorem dd_V_rename_8 : decode mm_V_rename.2.1 8 = .ok (.aload_n 0, 1) := by decide +kernel
theorem dd_V_rename_9 : decode mm_V_rename.2.1 9 = .ok (.iload_n 1, 1) := by decide +kernel
theorem dd_V_rename_10 : decode mm_V_rename.2.1 10 = .ok (.invokevirtual 86, 3) := by decide +kernel
theorem dd_V_rename_13 : decode mm_V_rename.2.1 13 = .ok (.astore 4, 2) := by decide +kernel
theorem dd_V_rename_15 : decode mm_V_rename.2.1 15 = .ok (.aload_n 0, 1) := by decide +kernel
theorem dd_V_rename_16 : decode mm_V_rename.2.1 16 = .ok (.iload_n 2, 1) := by decide +kernel
theorem dd_V_rename_17 : decode mm_V_rename.2.1 17 = .ok (.invokevirtual 67, 3) := by decide +kernel
theorem dd_V_rename_20 : decode mm_V_rename.2.1 20 = .ok (.aload_n 0, 1) := by decide +kernel
theorem dd_V_rename_21 : decode mm_V_rename.2.1 21 = .ok (.iload_n 2, 1) := by decide +kernel
theorem dd_V_rename_22 : decode mm_V_rename.2.1 22 = .ok (.iload_n 1, 1) := by decide +kernel
theorem dd_V_rename_23 : decode mm_V_rename.2.1 23 = .ok (.invokevirtual 107, 3) := by decide +kernel
theorem dd_V_rename_26 : decode mm_V_rename.2.1 26 = .ok (.ifCond .eq 13, 3) := by decide +kernel
theorem dd_V_rename_29 : decode mm_V_rename.2.1 29 = .ok (.new 93, 3) := by decide +kernel
theorem dd_V_rename_32 : decode mm_V_rename.2.1 32 = .ok (.dup, 1) := by decide +kernel
theorem dd_V_rename_33 : decode mm_V_rename.2.1 33 = .ok (.ldc 111, 2) := by decide +kernel
theorem dd_V_rename_35 : decode mm_V_rename.2.1 35 = .ok (.invokespecial 97, 3) := by decide +kernel
theorem dd_V_rename_38 : decode mm_V_rename.2.1 38 = .ok (.athrow, 1) := by decide +kernel
theorem dd_V_rename_39 : decode mm_V_rename.2.1 39 = .ok (.aload_n 0, 1) := by decide +kernel
theorem dd_V_rename_40 : decode mm_V_rename.2.1 40 = .ok (.iload_n 2, 1) := by decide +kernel
theorem dd_V_rename_41 : decode mm_V_rename.2.1 41 = .ok (.iload_n 3, 1) := by decide +kernel
theorem dd_V_rename_42 : decode mm_V_rename.2.1 42 = .ok (.iload_n 1, 1) := by decide +kernel
theorem dd_V_rename_43 : decode mm_V_rename.2.1 43 = .ok (.invokevirtual 70, 3) := by decide +kernel
theorem dd_V_rename_46 : decode mm_V_rename.2.1 46 = .ok (.iload_n 2, 1) := by decide +kernel
theorem dd_V_rename_47 : decode mm_V_rename.2.1 47 = .ok (.aload 4, 2) := by decide +kernel
theorem dd_V_rename_49 : decode mm_V_rename.2.1 49 = .ok (.getfield 98, 3) := by decide +kernel
theorem dd_V_rename_52 : decode mm_V_rename.2.1 52 = .ok (.if_icmp .eq 7, 3) := by decide +kernel
theorem dd_V_rename_55 : decode mm_V_rename.2.1 55 = .ok (.iconst 1, 1) := by decide +kernel
theorem dd_V_rename_56 : decode mm_V_rename.2.1 56 = .ok (.goto 4, 3) := by decide +kernel
theorem dd_V_rename_59 : decode mm_V_rename.2.1 59 = .ok (.iconst 0, 1) := by decide +kernel
theorem dd_V_rename_60 : decode mm_V_rename.2.1 60 = .ok (.istore 5, 2) := by decide +kernel
theorem dd_V_rename_62 : decode mm_V_rename.2.1 62 = .ok (.iload 5, 2) := by decide +kernel
theorem dd_V_rename_64 : decode mm_V_rename.2.1 64 = .ok (.ifCond .ne 14, 3) := by decide +kernel
theorem dd_V_rename_67 : decode mm_V_rename.2.1 67 = .ok (.iload_n 3, 1) := by decide +kernel
theorem dd_V_rename_68 : decode mm_V_rename.2.1 68 = .ok (.aload 4, 2) := by decide +kernel
theorem dd_V_rename_70 : decode mm_V_rename.2.1 70 = .ok (.getfield 101, 3) := by decide +kernel
theorem dd_V_rename_73 : decode mm_V_rename.2.1 73 = .ok (.if_icmp .ne 5, 3) := by decide +kernel
theorem dd_V_rename_76 : decode mm_V_rename.2.1 76 = .ok (.iconst 0, 1) := by decide +kernel
theorem dd_V_rename_77 : decode mm_V_rename.2.1 77 = .ok (.ireturn, 1) := by decide +kernel
theorem dd_V_rename_78 : decode mm_V_rename.2.1 78 = .ok (.aload_n 0, 1) := by decide +kernel
theorem dd_V_rename_79 : decode mm_V_rename.2.1 79 = .ok (.aload 4, 2) := by decide +kernel
theorem dd_V_rename_81 : decode mm_V_rename.2.1 81 = .ok (.iconst 4, 1) := by decide +kernel
theorem dd_V_rename_82 : decode mm_V_rename.2.1 82 = .ok (.invokevirtual 113, 3) := by decide +kernel
theorem dd_V_rename_85 : decode mm_V_rename.2.1 85 = .ok (.ifCond .ne 5, 3) := by decide +kernel
theorem dd_V_rename_88 : decode mm_V_rename.2.1 88 = .ok (.iconst 0, 1) := by decide +kernel
theorem dd_V_rename_89 : decode mm_V_rename.2.1 89 = .ok (.ireturn, 1) := by decide +kernel
theorem dd_V_rename_90 : decode mm_V_rename.2.1 90 = .ok (.new 74, 3) := by decide +kernel
theorem dd_V_rename_93 : decode mm_V_rename.2.1 93 = .ok (.dup, 1) := by decide +kernel
theorem dd_V_rename_94 : decode mm_V_rename.2.1 94 = .ok (.iload_n 1, 1) := by decide +kernel
theorem dd_V_rename_95 : decode mm_V_rename.2.1 95 = .ok (.aload 4, 2) := by decide +kernel
theorem dd_V_rename_97 : decode mm_V_rename.2.1 97 = .ok (.getfield 90, 3) := by decide +kernel
theorem dd_V_rename_100 : decode mm_V_rename.2.1 100 = .ok (.iload_n 2, 1) := by decide +kernel
theorem dd_V_rename_101 : decode mm_V_rename.2.1 101 = .ok (.iload_n 3, 1) := by decide +kernel
theorem dd_V_rename_102 : decode mm_V_rename.2.1 102 = .ok (.aload 4, 2) := by decide +kernel
theorem dd_V_rename_104 : decode mm_V_rename.2.1 104 = .ok (.getfield 104, 3) := by decide +kernel
theorem dd_V_rename_107 : decode mm_V_rename.2.1 107 = .ok (.invokespecial 76, 3) := by decide +kernel
theorem dd_V_rename_110 : decode mm_V_rename.2.1 110 = .ok (.astore 6, 2) := by decide +kernel
theorem dd_V_rename_112 : decode mm_V_rename.2.1 112 = .ok (.aload_n 0, 1) := by decide +kernel
theorem dd_V_rename_113 : decode mm_V_rename.2.1 113 = .ok (.aload 6, 2) := by decide +kernel
theorem dd_V_rename_115 : decode mm_V_rename.2.1 115 = .ok (.iload 5, 2) := by decide +kernel
theorem dd_V_rename_117 : decode mm_V_rename.2.1 117 = .ok (.ifCond .eq 8, 3) := by decide +kernel
theorem dd_V_rename_120 : decode mm_V_rename.2.1 120 = .ok (.bipush 24, 2) := by decide +kernel
theorem dd_V_rename_122 : decode mm_V_rename.2.1 122 = .ok (.goto 5, 3) := by decide +kernel
theorem dd_V_rename_125 : decode mm_V_rename.2.1 125 = .ok (.bipush 8, 2) := by decide +kernel
theorem dd_V_rename_127 : decode mm_V_rename.2.1 127 = .ok (.invokevirtual 79, 3) := by decide +kernel
theorem dd_V_rename_130 : decode mm_V_rename.2.1 130 = .ok (.ireturn, 1) := by decide +kernel
theorem dd_V_shown_0 : decode mm_V_shown.2.1 0 = .ok (.aload_n 0, 1) := by decide +kernel
theorem dd_V_shown_1 : decode mm_V_shown.2.1 1 = .ok (.iload_n 1, 1) := by decide +kernel
theorem dd_V_shown_2 : decode mm_V_shown.2.1 2 = .ok (.invokevirtual 170, 3) := by decide +kernel
theorem dd_V_shown_5 : decode mm_V_shown.2.1 5 = .ok (.astore_n 3, 1) := by decide +kernel
theorem dd_V_shown_6 : decode mm_V_shown.2.1 6 = .ok (.iload_n 2, 1) := by decide +kernel
theorem dd_V_shown_7 : decode mm_V_shown.2.1 7 = .ok (.ifCond .lt 8, 3) := by decide +kernel
theorem dd_V_shown_10 : decode mm_V_shown.2.1 10 = .ok (.iload_n 2, 1) := by decide +kernel
theorem dd_V_shown_11 : decode mm_V_shown.2.1 11 = .ok (.iconst 4, 1) := by decide +kernel
theorem dd_V_shown_12 : decode mm_V_shown.2.1 12 = .ok (.if_icmp .lt 7, 3) := by decide +kernel
theorem dd_V_shown_15 : decode mm_V_shown.2.1 15 = .ok (.iconst (-1), 1) := by decide +kernel
theorem dd_V_shown_16 : decode mm_V_shown.2.1 16 = .ok (.goto 9, 3) := by decide +kernel
theorem dd_V_shown_19 : decode mm_V_shown.2.1 19 = .ok (.aload_n 3, 1) := by decide +kernel
theorem dd_V_shown_20 : decode mm_V_shown.2.1 20 = .ok (.getfield 206, 3) := by decide +kernel
theorem dd_V_shown_23 : decode mm_V_shown.2.1 23 = .ok (.iload_n 2, 1) := by decide +kernel
theorem dd_V_shown_24 : decode mm_V_shown.2.1 24 = .ok (.iaload, 1) := by decide +kernel
theorem dd_V_shown_25 : decode mm_V_shown.2.1 25 = .ok (.ireturn, 1) := by decide +kernel
theorem dd_V_spendWrite_0 : decode mm_V_spendWrite.2.1 0 = .ok (.aload_n 0, 1) := by decide +kernel
theorem dd_V_spendWrite_1 : decode mm_V_spendWrite.2.1 1 = .ok (.getfield 47, 3) := by decide +kernel
theorem dd_V_spendWrite_4 : decode mm_V_spendWrite.2.1 4 = .ok (.ifCond .ne 17, 3) := by decide +kernel
theorem dd_V_spendWrite_7 : decode mm_V_spendWrite.2.1 7 = .ok (.aload_n 0, 1) := by decide +kernel
theorem dd_V_spendWrite_8 : decode mm_V_spendWrite.2.1 8 = .ok (.iconst 0, 1) := by decide +kernel
theorem dd_V_spendWrite_9 : decode mm_V_spendWrite.2.1 9 = .ok (.putfield 43, 3) := by decide +kernel
theorem dd_V_spendWrite_12 : decode mm_V_spendWrite.2.1 12 = .ok (.aload_n 0, 1) := by decide +kernel
theorem dd_V_spendWrite_13 : decode mm_V_spendWrite.2.1 13 = .ok (.getfield 28, 3) := by decide +kernel
theorem dd_V_spendWrite_16 : decode mm_V_spendWrite.2.1 16 = .ok (.invokevirtual 258, 3) := by decide +kernel
theorem dd_V_spendWrite_19 : decode mm_V_spendWrite.2.1 19 = .ok (.iconst 0, 1) := by decide +kernel
theorem dd_V_spendWrite_20 : decode mm_V_spendWrite.2.1 20 = .ok (.ireturn, 1) := by decide +kernel
theorem dd_V_spendWrite_21 : decode mm_V_spendWrite.2.1 21 = .ok (.aload_n 0, 1) := by decide +kernel
theorem dd_V_spendWrite_22 : decode mm_V_spendWrite.2.1 22 = .ok (.getfield 47, 3) := by decide +kernel
theorem dd_V_spendWrite_25 : decode mm_V_spendWrite.2.1 25 = .ok (.ifCond .le 13, 3) := by decide +kernel
theorem dd_V_spendWrite_28 : decode mm_V_spendWrite.2.1 28 = .ok (.aload_n 0, 1) := by decide +kernel
theorem dd_V_spendWrite_29 : decode mm_V_spendWrite.2.1 29 = .ok (.dup, 1) := by decide +kernel
theorem dd_V_spendWrite_30 : decode mm_V_spendWrite.2.1 30 = .ok (.getfield 47, 3) := by decide +kernel
theorem dd_V_spendWrite_33 : decode mm_V_spendWrite.2.1 33 = .ok (.iconst 1, 1) := by decide +kernel
theorem dd_V_spendWrite_34 : decode mm_V_spendWrite.2.1 34 = .ok (.isub, 1) := by decide +kernel
theorem dd_V_spendWrite_35 : decode mm_V_spendWrite.2.1 35 = .ok (.putfield 47, 3) := by decide +kernel
theorem dd_V_spendWrite_38 : decode mm_V_spendWrite.2.1 38 = .ok (.iconst 1, 1) := by decide +kernel
theorem dd_V_spendWrite_39 : decode mm_V_spendWrite.2.1 39 = .ok (.ireturn, 1) := by decide +kernel
theorem dd_V_start_0 : decode mm_V_start.2.1 0 = .ok (.aload_n 0, 1) := by decide +kernel
theorem dd_V_start_1 : decode mm_V_start.2.1 1 = .ok (.getfield 43, 3) := by decide +kernel
theorem dd_V_start_4 : decode mm_V_start.2.1 4 = .ok (.ifCond .eq 5, 3) := by decide +kernel
theorem dd_V_start_7 : decode mm_V_start.2.1 7 = .ok (.iconst (-1), 1) := by decide +kernel
theorem dd_V_start_8 : decode mm_V_start.2.1 8 = .ok (.ireturn, 1) := by decide +kernel
theorem dd_V_start_9 : decode mm_V_start.2.1 9 = .ok (.aload_n 0, 1) := by decide +kernel
theorem dd_V_start_10 : decode mm_V_start.2.1 10 = .ok (.iconst 1, 1) := by decide +kernel
theorem dd_V_start_11 : decode mm_V_start.2.1 11 = .ok (.putfield 43, 3) := by decide +kernel
theorem dd_V_start_14 : decode mm_V_start.2.1 14 = .ok (.aload_n 0, 1) := by decide +kernel
theorem dd_V_start_15 : decode mm_V_start.2.1 15 = .ok (.iconst (-1), 1) := by decide +kernel
theorem dd_V_start_16 : decode mm_V_start.2.1 16 = .ok (.putfield 47, 3) := by decide +kernel
theorem dd_V_start_19 : decode mm_V_start.2.1 19 = .ok (.aload_n 0, 1) := by decide +kernel
theorem dd_V_start_20 : decode mm_V_start.2.1 20 = .ok (.getfield 28, 3) := by decide +kernel
theorem dd_V_start_23 : decode mm_V_start.2.1 23 = .ok (.aload_n 0, 1) := by decide +kernel
theorem dd_V_start_24 : decode mm_V_start.2.1 24 = .ok (.getfield 21, 3) := by decide +kernel
theorem dd_V_start_27 : decode mm_V_start.2.1 27 = .ok (.invokevirtual 230, 3) := by decide +kernel
theorem dd_V_start_30 : decode mm_V_start.2.1 30 = .ok (.aload_n 0, 1) := by decide +kernel
theorem dd_V_start_31 : decode mm_V_start.2.1 31 = .ok (.getfield 28, 3) := by decide +kernel
theorem dd_V_start_34 : decode mm_V_start.2.1 34 = .ok (.invokevirtual 142, 3) := by decide +kernel
theorem dd_V_start_37 : decode mm_V_start.2.1 37 = .ok (.istore_n 1, 1) := by decide +kernel
theorem dd_V_start_38 : decode mm_V_start.2.1 38 = .ok (.iconst 0, 1) := by decide +kernel
theorem dd_V_start_39 : decode mm_V_start.2.1 39 = .ok (.istore_n 2, 1) := by decide +kernel
theorem dd_V_start_40 : decode mm_V_start.2.1 40 = .ok (.iload_n 2, 1) := by decide +kernel
theorem dd_V_start_41 : decode mm_V_start.2.1 41 = .ok (.iload_n 1, 1) := by decide +kernel
theorem dd_V_start_42 : decode mm_V_start.2.1 42 = .ok (.if_icmp .ge 26, 3) := by decide +kernel
theorem dd_V_start_45 : decode mm_V_start.2.1 45 = .ok (.aload_n 0, 1) := by decide +kernel
theorem dd_V_start_46 : decode mm_V_start.2.1 46 = .ok (.getfield 28, 3) := by decide +kernel
theorem dd_V_start_49 : decode mm_V_start.2.1 49 = .ok (.invokevirtual 233, 3) := by decide +kernel
theorem dd_V_start_52 : decode mm_V_start.2.1 52 = .ok (.astore_n 3, 1) := by decide +kernel
theorem dd_V_start_53 : decode mm_V_start.2.1 53 = .ok (.aload_n 3, 1) := by decide +kernel
theorem dd_V_start_54 : decode mm_V_start.2.1 54 = .ok (.ifnull 8, 3) := by decide +kernel
theorem dd_V_start_57 : decode mm_V_start.2.1 57 = .ok (.aload_n 0, 1) := by decide +kernel
theorem dd_V_start_58 : decode mm_V_start.2.1 58 = .ok (.aload_n 3, 1) := by decide +kernel
theorem dd_V_start_59 : decode mm_V_start.2.1 59 = .ok (.invokevirtual 237, 3) := by decide +kernel
theorem dd_V_start_62 : decode mm_V_start.2.1 62 = .ok (.iinc 2 1, 3) := by decide +kernel
theorem dd_V_start_65 : decode mm_V_start.2.1 65 = .ok (.goto (-25), 3) := by decide +kernel
theorem dd_V_start_68 : decode mm_V_start.2.1 68 = .ok (.iload_n 1, 1) := by decide +kernel
theorem dd_V_start_69 : decode mm_V_start.2.1 69 = .ok (.ireturn, 1) := by decide +kernel
theorem dd_V_subscribe_0 : decode mm_V_subscribe.2.1 0 = .ok (.aload_n 0, 1) := by decide +kernel
theorem dd_V_subscribe_1 : decode mm_V_subscribe.2.1 1 = .ok (.iload_n 1, 1) := by decide +kernel
theorem dd_V_subscribe_2 : decode mm_V_subscribe.2.1 2 = .ok (.invokevirtual 170, 3) := by decide +kernel
theorem dd_V_subscribe_5 : decode mm_V_subscribe.2.1 5 = .ok (.astore_n 3, 1) := by decide +kernel
theorem dd_V_subscribe_6 : decode mm_V_subscribe.2.1 6 = .ok (.iload_n 2, 1) := by decide +kernel
theorem dd_V_subscribe_7 : decode mm_V_subscribe.2.1 7 = .ok (.ifCond .lt 9, 3) := by decide +kernel
theorem dd_V_subscribe_10 : decode mm_V_subscribe.2.1 10 = .ok (.iload_n 2, 1) := by decide +kernel
theorem dd_V_subscribe_11 : decode mm_V_subscribe.2.1 11 = .ok (.bipush 127, 2) := by decide +kernel
theorem dd_V_subscribe_13 : decode mm_V_subscribe.2.1 13 = .ok (.if_icmp .le 13, 3) := by decide +kernel
theorem dd_V_subscribe_16 : decode mm_V_subscribe.2.1 16 = .ok (.new 174, 3) := by decide +kernel
theorem dd_V_subscribe_19 : decode mm_V_subscribe.2.1 19 = .ok (.dup, 1) := by decide +kernel
theorem dd_V_subscribe_20 : decode mm_V_subscribe.2.1 20 = .ok (.ldc 176, 2) := by decide +kernel
theorem dd_V_subscribe_22 : decode mm_V_subscribe.2.1 22 = .ok (.invokespecial 178, 3) := by decide +kernel
theorem dd_V_subscribe_25 : decode mm_V_subscribe.2.1 25 = .ok (.athrow, 1) := by decide +kernel
theorem dd_V_subscribe_26 : decode mm_V_subscribe.2.1 26 = .ok (.aload_n 3, 1) := by decide +kernel
theorem dd_V_subscribe_27 : decode mm_V_subscribe.2.1 27 = .ok (.iload_n 2, 1) := by decide +kernel
theorem dd_V_subscribe_28 : decode mm_V_subscribe.2.1 28 = .ok (.aload_n 0, 1) := by decide +kernel
theorem dd_V_subscribe_29 : decode mm_V_subscribe.2.1 29 = .ok (.getfield 21, 3) := by decide +kernel
theorem dd_V_subscribe_32 : decode mm_V_subscribe.2.1 32 = .ok (.invokevirtual 179, 3) := by decide +kernel
theorem dd_V_subscribe_35 : decode mm_V_subscribe.2.1 35 = .ok (.return_, 1) := by decide +kernel
theorem dd_V_subscriberAt_0 : decode mm_V_subscriberAt.2.1 0 = .ok (.iload_n 1, 1) := by decide +kernel
theorem dd_V_subscriberAt_1 : decode mm_V_subscriberAt.2.1 1 = .ok (.ifCond .lt 8, 3) := by decide +kernel
theorem dd_V_subscriberAt_4 : decode mm_V_subscriberAt.2.1 4 = .ok (.iload_n 1, 1) := by decide +kernel
theorem dd_V_subscriberAt_5 : decode mm_V_subscriberAt.2.1 5 = .ok (.iconst 3, 1) := by decide +kernel
theorem dd_V_subscriberAt_6 : decode mm_V_subscriberAt.2.1 6 = .ok (.if_icmp .lt 14, 3) := by decide +kernel
theorem dd_V_subscriberAt_9 : decode mm_V_subscriberAt.2.1 9 = .ok (.new 245, 3) := by decide +kernel
theorem dd_V_subscriberAt_12 : decode mm_V_subscriberAt.2.1 12 = .ok (.dup, 1) := by decide +kernel
theorem dd_V_subscriberAt_13 : decode mm_V_subscriberAt.2.1 13 = .ok (.ldc_w 256, 3) := by decide +kernel
theorem dd_V_subscriberAt_16 : decode mm_V_subscriberAt.2.1 16 = .ok (.invokespecial 249, 3) := by decide +kernel
theorem dd_V_subscriberAt_19 : decode mm_V_subscriberAt.2.1 19 = .ok (.athrow, 1) := by decide +kernel
theorem dd_V_subscriberAt_20 : decode mm_V_subscriberAt.2.1 20 = .ok (.aload_n 0, 1) := by decide +kernel
theorem dd_V_subscriberAt_21 : decode mm_V_subscriberAt.2.1 21 = .ok (.getfield 34, 3) := by decide +kernel
theorem dd_V_subscriberAt_24 : decode mm_V_subscriberAt.2.1 24 = .ok (.iload_n 1, 1) := by decide +kernel
theorem dd_V_subscriberAt_25 : decode mm_V_subscriberAt.2.1 25 = .ok (.aaload, 1) := by decide +kernel
theorem dd_V_subscriberAt_26 : decode mm_V_subscriberAt.2.1 26 = .ok (.areturn, 1) := by decide +kernel
theorem dd_V_tail_0 : decode mm_V_tail.2.1 0 = .ok (.aload_n 0, 1) := by decide +kernel
theorem dd_V_tail_1 : decode mm_V_tail.2.1 1 = .ok (.getfield 21, 3) := by decide +kernel
theorem dd_V_tail_4 : decode mm_V_tail.2.1 4 = .ok (.invokevirtual 155, 3) := by decide +kernel
theorem dd_V_tail_7 : decode mm_V_tail.2.1 7 = .ok (.ireturn, 1) := by decide +kernel
theorem dd_V_writeChangeNote_0 : decode mm_V_writeChangeNote.2.1 0 = .ok (.aload_n 0, 1) := by decide +kernel
theorem dd_V_writeChangeNote_1 : decode mm_V_writeChangeNote.2.1 1 = .ok (.getfield 28, 3) := by decide +kernel
theorem dd_V_writeChangeNote_4 : decode mm_V_writeChangeNote.2.1 4 = .ok (.aload_n 1, 1) := by decide +kernel
theorem dd_V_writeChangeNote_5 : decode mm_V_writeChangeNote.2.1 5 = .ok (.getfield 83, 3) := by decide +kernel
theorem dd_V_writeChangeNote_8 : decode mm_V_writeChangeNote.2.1 8 = .ok (.invokevirtual 265, 3) := by decide +kernel
theorem dd_V_writeChangeNote_11 : decode mm_V_writeChangeNote.2.1 11 = .ok (.astore_n 3, 1) := by decide +kernel
theorem dd_V_writeChangeNote_12 : decode mm_V_writeChangeNote.2.1 12 = .ok (.aload_n 3, 1) := by decide +kernel
theorem dd_V_writeChangeNote_13 : decode mm_V_writeChangeNote.2.1 13 = .ok (.ifnull 13, 3) := by decide +kernel
theorem dd_V_writeChangeNote_16 : decode mm_V_writeChangeNote.2.1 16 = .ok (.aload_n 0, 1) := by decide +kernel
theorem dd_V_writeChangeNote_17 : decode mm_V_writeChangeNote.2.1 17 = .ok (.aload_n 3, 1) := by decide +kernel
theorem dd_V_writeChangeNote_18 : decode mm_V_writeChangeNote.2.1 18 = .ok (.invokevirtual 138, 3) := by decide +kernel
theorem dd_V_writeChangeNote_21 : decode mm_V_writeChangeNote.2.1 21 = .ok (.ifCond .ne 5, 3) := by decide +kernel
theorem dd_V_writeChangeNote_24 : decode mm_V_writeChangeNote.2.1 24 = .ok (.iconst 0, 1) := by decide +kernel
theorem dd_V_writeChangeNote_25 : decode mm_V_writeChangeNote.2.1 25 = .ok (.ireturn, 1) := by decide +kernel
theorem dd_V_writeChangeNote_26 : decode mm_V_writeChangeNote.2.1 26 = .ok (.aload_n 0, 1) := by decide +kernel
theorem dd_V_writeChangeNote_27 : decode mm_V_writeChangeNote.2.1 27 = .ok (.invokevirtual 122, 3) := by decide +kernel
theorem dd_V_writeChangeNote_30 : decode mm_V_writeChangeNote.2.1 30 = .ok (.ifCond .ne 5, 3) := by decide +kernel
theorem dd_V_writeChangeNote_33 : decode mm_V_writeChangeNote.2.1 33 = .ok (.iconst 0, 1) := by decide +kernel
theorem dd_V_writeChangeNote_34 : decode mm_V_writeChangeNote.2.1 34 = .ok (.ireturn, 1) := by decide +kernel
theorem dd_V_writeChangeNote_35 : decode mm_V_writeChangeNote.2.1 35 = .ok (.aload_n 0, 1) := by decide +kernel
theorem dd_V_writeChangeNote_36 : decode mm_V_writeChangeNote.2.1 36 = .ok (.getfield 21, 3) := by decide +kernel
theorem dd_V_writeChangeNote_39 : decode mm_V_writeChangeNote.2.1 39 = .ok (.aload_n 1, 1) := by decide +kernel
theorem dd_V_writeChangeNote_40 : decode mm_V_writeChangeNote.2.1 40 = .ok (.aload_n 0, 1) := by decide +kernel
theorem dd_V_writeChangeNote_41 : decode mm_V_writeChangeNote.2.1 41 = .ok (.getfield 28, 3) := by decide +kernel
theorem dd_V_writeChangeNote_44 : decode mm_V_writeChangeNote.2.1 44 = .ok (.aload_n 1, 1) := by decide +kernel
theorem dd_V_writeChangeNote_45 : decode mm_V_writeChangeNote.2.1 45 = .ok (.getfield 83, 3) := by decide +kernel
theorem dd_V_writeChangeNote_48 : decode mm_V_writeChangeNote.2.1 48 = .ok (.iload_n 2, 1) := by decide +kernel
theorem dd_V_writeChangeNote_49 : decode mm_V_writeChangeNote.2.1 49 = .ok (.invokevirtual 268, 3) := by decide +kernel
theorem dd_V_writeChangeNote_52 : decode mm_V_writeChangeNote.2.1 52 = .ok (.invokevirtual 272, 3) := by decide +kernel
theorem dd_V_writeChangeNote_55 : decode mm_V_writeChangeNote.2.1 55 = .ok (.iconst 1, 1) := by decide +kernel
theorem dd_V_writeChangeNote_56 : decode mm_V_writeChangeNote.2.1 56 = .ok (.ireturn, 1) := by decide +kernel
theorem dd_V_writeClosingNote_0 : decode mm_V_writeClosingNote.2.1 0 = .ok (.aload_n 0, 1) := by decide +kernel
theorem dd_V_writeClosingNote_1 : decode mm_V_writeClosingNote.2.1 1 = .ok (.invokevirtual 122, 3) := by decide +kernel
theorem dd_V_writeClosingNote_4 : decode mm_V_writeClosingNote.2.1 4 = .ok (.ifCond .ne 5, 3) := by decide +kernel
theorem dd_V_writeClosingNote_7 : decode mm_V_writeClosingNote.2.1 7 = .ok (.iconst 0, 1) := by decide +kernel
theorem dd_V_writeClosingNote_8 : decode mm_V_writeClosingNote.2.1 8 = .ok (.ireturn, 1) := by decide +kernel
theorem dd_V_writeClosingNote_9 : decode mm_V_writeClosingNote.2.1 9 = .ok (.aload_n 0, 1) := by decide +kernel
theorem dd_V_writeClosingNote_10 : decode mm_V_writeClosingNote.2.1 10 = .ok (.aload_n 1, 1) := by decide +kernel
theorem dd_V_writeClosingNote_11 : decode mm_V_writeClosingNote.2.1 11 = .ok (.invokevirtual 237, 3) := by decide +kernel
theorem dd_V_writeClosingNote_14 : decode mm_V_writeClosingNote.2.1 14 = .ok (.iconst 1, 1) := by decide +kernel
theorem dd_V_writeClosingNote_15 : decode mm_V_writeClosingNote.2.1 15 = .ok (.ireturn, 1) := by decide +kernel
theorem nw_S_9 : xa_N "NotedVolume$Subscriber" 9 2 [.null, .int 0] := ⟨_, _, _, ty_2, rfl, rfl, tk_2, by decide +kernel, ly_2, iw_114, iw_42, iw_2⟩
theorem fl_S_14 : xa_F "NotedVolume$Subscriber" 14 7 0 := ⟨_, _, _, "NotedVolume$Subscriber", rfl, by decide, ly_7, iw_116, Or.inl rfl⟩
theorem fz_S_14 : xa_Z 7 0 (.object "NotedVolume$FileTable") true "NotedVolume$Subscriber" := ⟨_, _, _, ty_7, rfl, tk_7, nk_7, rfl, rfl, by decide⟩
theorem fl_S_20 : xa_F "NotedVolume$Subscriber" 20 7 1 := ⟨_, _, _, "NotedVolume$Subscriber", rfl, by decide, ly_7, iw_118, Or.inl rfl⟩
theorem fz_S_20 : xa_Z 7 1 (.array .int) true "NotedVolume$Subscriber" := ⟨_, _, _, ty_7, rfl, tk_7, nk_7, rfl, rfl, by decide⟩
theorem fl_S_24 : xa_F "NotedVolume$Subscriber" 24 7 2 := ⟨_, _, _, "NotedVolume$Subscriber", rfl, by decide, ly_7, iw_120, Or.inl rfl⟩
theorem fz_S_24 : xa_Z 7 2 (.int) false "NotedVolume$Subscriber" := ⟨_, _, _, ty_7, rfl, tk_7, nk_7, rfl, rfl, by decide⟩
theorem fl_S_28 : xa_F "NotedVolume$Subscriber" 28 7 3 := ⟨_, _, _, "NotedVolume$Subscriber", rfl, by decide, ly_7, iw_122, Or.inl rfl⟩
theorem fz_S_28 : xa_Z 7 3 (.int) false "NotedVolume$Subscriber" := ⟨_, _, _, ty_7, rfl, tk_7, nk_7, rfl, rfl, by decide⟩
theorem fl_S_37 : xa_F "NotedVolume$Subscriber" 37 7 4 := ⟨_, _, _, "NotedVolume$Subscriber", rfl, by decide, ly_7, iw_124, Or.inl rfl⟩
theorem fz_S_37 : xa_Z 7 4 (.boolean) false "NotedVolume$Subscriber" := ⟨_, _, _, ty_7, rfl, tk_7, nk_7, rfl, rfl, by decide⟩
theorem fl_S_54 : xa_F "NotedVolume$Subscriber" 54 7 5 := ⟨_, _, _, "NotedVolume$Subscriber", rfl, by decide, ly_7, iw_126, Or.inl rfl⟩
theorem fz_S_54 : xa_Z 7 5 (.int) false "NotedVolume$Subscriber" := ⟨_, _, _, ty_7, rfl, tk_7, nk_7, rfl, rfl, by decide⟩
theorem fl_S_95 : xa_F "NotedVolume$Subscriber" 95 3 0 := ⟨_, _, _, "NotedVolume$Note", rfl, by decide, ly_3, iw_407, Or.inl rfl⟩
theorem fl_S_61 : xa_F "NotedVolume$Subscriber" 61 1 0 := ⟨_, _, _, "NotedVolume$Entry", rfl, by decide, ly_1, iw_374, Or.inl rfl⟩
theorem nw_V_7 : xa_N "NotedVolume" 7 2 [.null, .int 0] := ⟨_, _, _, ty_2, rfl, rfl, tk_2, by decide +kernel, ly_2, iw_41, iw_42, iw_2⟩
theorem fl_V_14 : xa_F "NotedVolume" 14 0 0 := ⟨_, _, _, "NotedVolume", rfl, by decide, ly_0, iw_141, Or.inl rfl⟩
theorem fz_V_14 : xa_Z 0 0 (.object "NotedVolume$FileTable") true "NotedVolume" := ⟨_, _, _, ty_0, rfl, tk_0, nk_0, rfl, rfl, by decide⟩
theorem nw_V_18 : xa_N "NotedVolume" 18 4 [.null, .int 0] := ⟨_, _, _, ty_4, rfl, rfl, tk_4, by decide +kernel, ly_4, iw_80, iw_81, iw_6⟩
theorem fl_V_21 : xa_F "NotedVolume" 21 0 1 := ⟨_, _, _, "NotedVolume", rfl, by decide, ly_0, iw_142, Or.inl rfl⟩
theorem fz_V_21 : xa_Z 0 1 (.object "NotedVolume$Ring") true "NotedVolume" := ⟨_, _, _, ty_0, rfl, tk_0, nk_0, rfl, rfl, by decide⟩
theorem nw_V_25 : xa_N "NotedVolume" 25 6 [.null] := ⟨_, _, _, ty_6, rfl, rfl, tk_6, by decide +kernel, ly_6, iw_95, iw_96, iw_7⟩
theorem fl_V_28 : xa_F "NotedVolume" 28 0 2 := ⟨_, _, _, "NotedVolume", rfl, by decide, ly_0, iw_143, Or.inl rfl⟩
theorem fz_V_28 : xa_Z 0 2 (.object "NotedVolume$Gatherings") true "NotedVolume" := ⟨_, _, _, ty_0, rfl, tk_0, nk_0, rfl, rfl, by decide⟩
theorem fl_V_34 : xa_F "NotedVolume" 34 0 3 := ⟨_, _, _, "NotedVolume", rfl, by decide, ly_0, iw_144, Or.inl rfl⟩
theorem fz_V_34 : xa_Z 0 3 (.array (.object "NotedVolume$Subscriber")) true "NotedVolume" := ⟨_, _, _, ty_0, rfl, tk_0, nk_0, rfl, rfl, by decide⟩
theorem nw_V_32 : xa_N "NotedVolume" 32 7 [.null, .null, .int 0, .int 0, .int 0, .int 0] := ⟨_, _, _, ty_7, rfl, rfl, tk_7, by decide +kernel, ly_7, iw_107, iw_109, iw_8⟩
theorem fl_V_39 : xa_F "NotedVolume" 39 0 4 := ⟨_, _, _, "NotedVolume", rfl, by decide, ly_0, iw_145, Or.inl rfl⟩
theorem fz_V_39 : xa_Z 0 4 (.int) false "NotedVolume" := ⟨_, _, _, ty_0, rfl, tk_0, nk_0, rfl, rfl, by decide⟩
theorem fl_V_43 : xa_F "NotedVolume" 43 0 5 := ⟨_, _, _, "NotedVolume", rfl, by decide, ly_0, iw_146, Or.inl rfl⟩
theorem fz_V_43 : xa_Z 0 5 (.boolean) false "NotedVolume" := ⟨_, _, _, ty_0, rfl, tk_0, nk_0, rfl, rfl, by decide⟩
theorem fl_V_47 : xa_F "NotedVolume" 47 0 6 := ⟨_, _, _, "NotedVolume", rfl, by decide, ly_0, iw_147, Or.inl rfl⟩
theorem fz_V_47 : xa_Z 0 6 (.int) false "NotedVolume" := ⟨_, _, _, ty_0, rfl, tk_0, nk_0, rfl, rfl, by decide⟩
theorem fl_V_90 : xa_F "NotedVolume" 90 1 1 := ⟨_, _, _, "NotedVolume$Entry", rfl, by decide, ly_1, iw_377, Or.inl rfl⟩
theorem nw_V_74 : xa_N "NotedVolume" 74 1 [.int 0, .int 0, .int 0, .int 0, .int 0] := ⟨_, _, _, ty_1, rfl, rfl, tk_1, by decide +kernel, ly_1, iw_364, iw_365, iw_19⟩
theorem fl_V_98 : xa_F "NotedVolume" 98 1 2 := ⟨_, _, _, "NotedVolume$Entry", rfl, by decide, ly_1, iw_379, Or.inl rfl⟩
theorem fl_V_101 : xa_F "NotedVolume" 101 1 3 := ⟨_, _, _, "NotedVolume$Entry", rfl, by decide, ly_1, iw_382, Or.inl rfl⟩
theorem fl_V_104 : xa_F "NotedVolume" 104 1 4 := ⟨_, _, _, "NotedVolume$Entry", rfl, by decide, ly_1, iw_385, Or.inl rfl⟩
theorem fl_V_83 : xa_F "NotedVolume" 83 1 0 := ⟨_, _, _, "NotedVolume$Entry", rfl, by decide, ly_1, iw_371, Or.inl rfl⟩
theorem fl_V_216 : xa_F "NotedVolume" 216 7 0 := ⟨_, _, _, "NotedVolume$Subscriber", rfl, by decide, ly_7, iw_117, Or.inl rfl⟩
theorem fl_V_183 : xa_F "NotedVolume" 183 7 2 := ⟨_, _, _, "NotedVolume$Subscriber", rfl, by decide, ly_7, iw_121, Or.inl rfl⟩
theorem fl_V_276 : xa_F "NotedVolume" 276 5 0 := ⟨_, _, _, "NotedVolume$Gathering", rfl, by decide, ly_5, iw_278, Or.inl rfl⟩
theorem fl_V_281 : xa_F "NotedVolume" 281 5 1 := ⟨_, _, _, "NotedVolume$Gathering", rfl, by decide, ly_5, iw_280, Or.inl rfl⟩
theorem fl_V_197 : xa_F "NotedVolume" 197 7 4 := ⟨_, _, _, "NotedVolume$Subscriber", rfl, by decide, ly_7, iw_125, Or.inl rfl⟩
theorem fl_V_186 : xa_F "NotedVolume" 186 7 3 := ⟨_, _, _, "NotedVolume$Subscriber", rfl, by decide, ly_7, iw_123, Or.inl rfl⟩
theorem fl_V_206 : xa_F "NotedVolume" 206 7 1 := ⟨_, _, _, "NotedVolume$Subscriber", rfl, by decide, ly_7, iw_119, Or.inl rfl⟩
theorem iv_S_init_12 {G : xa_G} {rest : List Value} {h : xa_H} {b : Nat} {a1 : Value} : xa_inv G mm_S_init mm_F_init 12 (a1 :: .ref b :: rest) [.ref b, a1] rest h := xi_I (n := 1) (As := [a1]) dd_S_init_12 ok_F_init rfl iw_45 iw_115 iw_44 (by decide +kernel) rfl
theorem iv_S_act_9 {G : xa_G} {rest fs : List Value} {h : xa_H} {b : Nat} {a1 : Value} (hb : h b = some (.inr (7, fs))) : xa_inv G mm_S_act mm_S_copyPage 9 (a1 :: .ref b :: rest) [.ref b, a1] rest h := xi_V (n := 1) (As := [a1]) dd_S_act_9 ok_S_copyPage iw_1026 iw_1028 rfl ps_18 (by decide +kernel) rfl hb
theorem iv_S_act_18 {G : xa_G} {rest fs : List Value} {h : xa_H} {b : Nat} {a1 a2 : Value} (hb : h b = some (.inr (7, fs))) : xa_inv G mm_S_act mm_S_takeNote 18 (a2 :: a1 :: .ref b :: rest) [.ref b, a1, a2] rest h := xi_V (n := 2) (As := [a1, a2]) dd_S_act_18 ok_S_takeNote iw_1042 iw_974 rfl iw_975 (by decide +kernel) rfl hb
theorem iv_S_act_29 {G : xa_G} {rest fs : List Value} {h : xa_H} {b : Nat} {a1 : Value} (hb : h b = some (.inr (7, fs))) : xa_inv G mm_S_act mm_S_beginListing 29 (a1 :: .ref b :: rest) [.ref b, a1] rest h := xi_V (n := 1) (As := [a1]) dd_S_act_29 ok_S_beginListing iw_1043 iw_988 rfl iw_989 (by decide +kernel) rfl hb
theorem iv_S_act_36 {G : xa_G} {rest fs : List Value} {h : xa_H} {b : Nat} {a1 : Value} (hb : h b = some (.inr (4, fs))) : xa_inv G mm_S_act mm_R_noteAt 36 (a1 :: .ref b :: rest) [.ref b, a1] rest h := xi_V (n := 1) (As := [a1]) dd_S_act_36 ok_R_noteAt iw_978 iw_238 rfl iw_239 (by decide +kernel) rfl hb
theorem iv_S_act_52 {G : xa_G} {rest fs : List Value} {h : xa_H} {b : Nat} {a1 a2 : Value} (hb : h b = some (.inr (7, fs))) : xa_inv G mm_S_act mm_S_copyNote 52 (a2 :: a1 :: .ref b :: rest) [.ref b, a1, a2] rest h := xi_V (n := 2) (As := [a1, a2]) dd_S_act_52 ok_S_copyNote iw_1044 iw_1046 rfl ps_20 (by decide +kernel) rfl hb
theorem iv_S_beginAnew_7 {G : xa_G} {rest fs : List Value} {h : xa_H} {b : Nat} (hb : h b = some (.inr (4, fs))) : xa_inv G mm_S_beginAnew mm_R_nextSerial 7 (.ref b :: rest) [.ref b] rest h := xi_V (n := 0) (As := []) dd_S_beginAnew_7 ok_R_nextSerial iw_958 iw_220 rfl iw_221 (by decide +kernel) rfl hb
theorem iv_S_beginListing_12 {G : xa_G} {rest fs : List Value} {h : xa_H} {b : Nat} (hb : h b = some (.inr (4, fs))) : xa_inv G mm_S_beginListing mm_R_nextSerial 12 (.ref b :: rest) [.ref b] rest h := xi_V (n := 0) (As := []) dd_S_beginListing_12 ok_R_nextSerial iw_958 iw_220 rfl iw_221 (by decide +kernel) rfl hb
theorem iv_S_copyAsItIs_2 {G : xa_G} {rest fs : List Value} {h : xa_H} {b : Nat} {a1 : Value} (hb : h b = some (.inr (2, fs))) : xa_inv G mm_S_copyAsItIs mm_F_entryOf 2 (a1 :: .ref b :: rest) [.ref b, a1] rest h := xi_V (n := 1) (As := [a1]) dd_S_copyAsItIs_2 ok_F_entryOf iw_1040 iw_361 rfl iw_362 (by decide +kernel) rfl hb
theorem iv_S_copyAsItIs_15 {G : xa_G} {rest fs : List Value} {h : xa_H} {b : Nat} {a1 : Value} (hb : h b = some (.inr (2, fs))) : xa_inv G mm_S_copyAsItIs mm_F_put 15 (a1 :: .ref b :: rest) [.ref b, a1] rest h := xi_V (n := 1) (As := [a1]) dd_S_copyAsItIs_15 ok_F_put iw_1041 iw_598 rfl iw_599 (by decide +kernel) rfl hb
theorem iv_S_copyNote_11 {G : xa_G} {rest fs : List Value} {h : xa_H} {b : Nat} {a1 : Value} (hb : h b = some (.inr (3, fs))) : xa_inv G mm_S_copyNote mm_N_hasAny 11 (a1 :: .ref b :: rest) [.ref b, a1] rest h := xi_V (n := 1) (As := [a1]) dd_S_copyNote_11 ok_N_hasAny iw_979 iw_243 rfl iw_244 (by decide +kernel) rfl hb
theorem iv_S_copyNote_22 {G : xa_G} {rest fs : List Value} {h : xa_H} {b : Nat} {a1 : Value} (hb : h b = some (.inr (2, fs))) : xa_inv G mm_S_copyNote mm_F_drop 22 (a1 :: .ref b :: rest) [.ref b, a1] rest h := xi_V (n := 1) (As := [a1]) dd_S_copyNote_22 ok_F_drop iw_1048 iw_896 rfl iw_897 (by decide +kernel) rfl hb
theorem iv_S_copyNote_28 {G : xa_G} {rest fs : List Value} {h : xa_H} {b : Nat} {a1 a2 : Value} (hb : h b = some (.inr (7, fs))) : xa_inv G mm_S_copyNote mm_S_copyAsItIs 28 (a2 :: a1 :: .ref b :: rest) [.ref b, a1, a2] rest h := xi_V (n := 2) (As := [a1, a2]) dd_S_copyNote_28 ok_S_copyAsItIs iw_1036 iw_1038 rfl ps_19 (by decide +kernel) rfl hb
theorem iv_S_copyNote_37 {G : xa_G} {rest fs : List Value} {h : xa_H} {b : Nat} {a1 : Value} (hb : h b = some (.inr (3, fs))) : xa_inv G mm_S_copyNote mm_N_hasAny 37 (a1 :: .ref b :: rest) [.ref b, a1] rest h := xi_V (n := 1) (As := [a1]) dd_S_copyNote_37 ok_N_hasAny iw_979 iw_243 rfl iw_244 (by decide +kernel) rfl hb
theorem iv_S_copyNote_48 {G : xa_G} {rest fs : List Value} {h : xa_H} {b : Nat} {a1 : Value} (hb : h b = some (.inr (2, fs))) : xa_inv G mm_S_copyNote mm_F_drop 48 (a1 :: .ref b :: rest) [.ref b, a1] rest h := xi_V (n := 1) (As := [a1]) dd_S_copyNote_48 ok_F_drop iw_1048 iw_896 rfl iw_897 (by decide +kernel) rfl hb
theorem iv_S_copyNote_62 {G : xa_G} {rest fs : List Value} {h : xa_H} {b : Nat} {a1 : Value} (hb : h b = some (.inr (2, fs))) : xa_inv G mm_S_copyNote mm_F_put 62 (a1 :: .ref b :: rest) [.ref b, a1] rest h := xi_V (n := 1) (As := [a1]) dd_S_copyNote_62 ok_F_put iw_1041 iw_598 rfl iw_599 (by decide +kernel) rfl hb
theorem iv_S_copyPage_7 {G : xa_G} {rest fs : List Value} {h : xa_H} {b : Nat} {a1 : Value} (hb : h b = some (.inr (7, fs))) : xa_inv G mm_S_copyPage mm_S_showPage 7 (a1 :: .ref b :: rest) [.ref b, a1] rest h := xi_V (n := 1) (As := [a1]) dd_S_copyPage_7 ok_S_showPage iw_1030 iw_1000 rfl iw_1001 (by decide +kernel) rfl hb
theorem iv_S_copyPage_32 {G : xa_G} {rest fs : List Value} {h : xa_H} {b : Nat} {a1 a2 : Value} (hb : h b = some (.inr (2, fs))) : xa_inv G mm_S_copyPage mm_F_dropRange 32 (a2 :: a1 :: .ref b :: rest) [.ref b, a1, a2] rest h := xi_V (n := 2) (As := [a1, a2]) dd_S_copyPage_32 ok_F_dropRange iw_1032 iw_1033 rfl iw_1034 (by decide +kernel) rfl hb
theorem iv_S_copyPage_50 {G : xa_G} {rest fs : List Value} {h : xa_H} {b : Nat} {a1 a2 : Value} (hb : h b = some (.inr (7, fs))) : xa_inv G mm_S_copyPage mm_S_copyAsItIs 50 (a2 :: a1 :: .ref b :: rest) [.ref b, a1, a2] rest h := xi_V (n := 2) (As := [a1, a2]) dd_S_copyPage_50 ok_S_copyAsItIs iw_1036 iw_1038 rfl ps_19 (by decide +kernel) rfl hb
theorem iv_S_showPage_14 {G : xa_G} {rest fs : List Value} {h : xa_H} {b : Nat} {a1 : Value} (hb : h b = some (.inr (2, fs))) : xa_inv G mm_S_showPage mm_F_entryAbove 14 (a1 :: .ref b :: rest) [.ref b, a1] rest h := xi_V (n := 1) (As := [a1]) dd_S_showPage_14 ok_F_entryAbove iw_1003 iw_1004 rfl iw_1005 (by decide +kernel) rfl hb
theorem iv_S_takeNote_5 {G : xa_G} {rest fs : List Value} {h : xa_H} {b : Nat} (hb : h b = some (.inr (4, fs))) : xa_inv G mm_S_takeNote mm_R_leastKept 5 (.ref b :: rest) [.ref b] rest h := xi_V (n := 0) (As := []) dd_S_takeNote_5 ok_R_leastKept iw_977 iw_212 rfl iw_213 (by decide +kernel) rfl hb
theorem iv_S_takeNote_20 {G : xa_G} {rest fs : List Value} {h : xa_H} {b : Nat} (hb : h b = some (.inr (4, fs))) : xa_inv G mm_S_takeNote mm_R_nextSerial 20 (.ref b :: rest) [.ref b] rest h := xi_V (n := 0) (As := []) dd_S_takeNote_20 ok_R_nextSerial iw_958 iw_220 rfl iw_221 (by decide +kernel) rfl hb
theorem iv_S_takeNote_28 {G : xa_G} {rest fs : List Value} {h : xa_H} {b : Nat} {a1 : Value} (hb : h b = some (.inr (4, fs))) : xa_inv G mm_S_takeNote mm_R_noteAt 28 (a1 :: .ref b :: rest) [.ref b, a1] rest h := xi_V (n := 1) (As := [a1]) dd_S_takeNote_28 ok_R_noteAt iw_978 iw_238 rfl iw_239 (by decide +kernel) rfl hb
theorem iv_S_takeNote_41 {G : xa_G} {rest fs : List Value} {h : xa_H} {b : Nat} {a1 : Value} (hb : h b = some (.inr (3, fs))) : xa_inv G mm_S_takeNote mm_N_hasAny 41 (a1 :: .ref b :: rest) [.ref b, a1] rest h := xi_V (n := 1) (As := [a1]) dd_S_takeNote_41 ok_N_hasAny iw_979 iw_243 rfl iw_244 (by decide +kernel) rfl hb
theorem iv_S_takeNote_64 {G : xa_G} {rest fs : List Value} {h : xa_H} {b : Nat} (hb : h b = some (.inr (4, fs))) : xa_inv G mm_S_takeNote mm_R_nextSerial 64 (.ref b :: rest) [.ref b] rest h := xi_V (n := 0) (As := []) dd_S_takeNote_64 ok_R_nextSerial iw_958 iw_220 rfl iw_221 (by decide +kernel) rfl hb
theorem iv_V_init_11 {G : xa_G} {rest : List Value} {h : xa_H} {b : Nat} {a1 : Value} : xa_inv G mm_V_init mm_F_init 11 (a1 :: .ref b :: rest) [.ref b, a1] rest h := xi_I (n := 1) (As := [a1]) dd_V_init_11 ok_F_init rfl iw_45 iw_43 iw_44 (by decide +kernel) rfl
theorem iv_V_init_22 {G : xa_G} {rest : List Value} {h : xa_H} {b : Nat} : xa_inv G mm_V_init mm_R_init 22 (.ref b :: rest) [.ref b] rest h := xi_I (n := 0) (As := []) dd_V_init_22 ok_R_init rfl iw_84 iw_82 iw_83 (by decide +kernel) rfl
theorem iv_V_init_33 {G : xa_G} {rest : List Value} {h : xa_H} {b : Nat} : xa_inv G mm_V_init mm_H_init 33 (.ref b :: rest) [.ref b] rest h := xi_I (n := 0) (As := []) dd_V_init_33 ok_H_init rfl iw_99 iw_97 iw_98 (by decide +kernel) rfl
theorem iv_V_init_63 {G : xa_G} {rest : List Value} {h : xa_H} {b : Nat} : xa_inv G mm_V_init mm_S_init 63 (.ref b :: rest) [.ref b] rest h := xi_I (n := 0) (As := []) dd_V_init_63 ok_S_init rfl iw_112 iw_110 iw_111 (by decide +kernel) rfl
theorem iv_V_change_1 {G : xa_G} {rest fs : List Value} {h : xa_H} {b : Nat} (hb : h b = some (.inr (0, fs))) : xa_inv G mm_V_change mm_V_checkPower 1 (.ref b :: rest) [.ref b] rest h := xi_V (n := 0) (As := []) dd_V_change_1 ok_V_checkPower iw_432 iw_434 rfl ps_5 (by decide +kernel) rfl hb
theorem iv_V_change_6 {G : xa_G} {rest fs : List Value} {h : xa_H} {b : Nat} {a1 : Value} (hb : h b = some (.inr (0, fs))) : xa_inv G mm_V_change mm_V_liveEntry 6 (a1 :: .ref b :: rest) [.ref b, a1] rest h := xi_V (n := 1) (As := [a1]) dd_V_change_6 ok_V_liveEntry iw_530 iw_532 rfl ps_8 (by decide +kernel) rfl hb
theorem iv_V_change_51 {G : xa_G} {rest : List Value} {h : xa_H} {b : Nat} {a1 a2 a3 a4 a5 : Value} : xa_inv G mm_V_change mm_E_init 51 (a5 :: a4 :: a3 :: a2 :: a1 :: .ref b :: rest) [.ref b, a1, a2, a3, a4, a5] rest h := xi_I (n := 5) (As := [a1, a2, a3, a4, a5]) dd_V_change_51 ok_E_init rfl iw_368 iw_366 iw_367 (by decide +kernel) rfl
theorem iv_V_change_58 {G : xa_G} {rest fs : List Value} {h : xa_H} {b : Nat} {a1 a2 : Value} (hb : h b = some (.inr (0, fs))) : xa_inv G mm_V_change mm_V_noteAndDo 58 (a2 :: a1 :: .ref b :: rest) [.ref b, a1, a2] rest h := xi_V (n := 2) (As := [a1, a2]) dd_V_change_58 ok_V_noteAndDo iw_571 iw_573 rfl ps_10 (by decide +kernel) rfl hb
theorem iv_V_checkFolder_7 {G : xa_G} {rest fs : List Value} {h : xa_H} {b : Nat} {a1 : Value} (hb : h b = some (.inr (0, fs))) : xa_inv G mm_V_checkFolder mm_V_liveEntry 7 (a1 :: .ref b :: rest) [.ref b, a1] rest h := xi_V (n := 1) (As := [a1]) dd_V_checkFolder_7 ok_V_liveEntry iw_530 iw_532 rfl ps_8 (by decide +kernel) rfl hb
theorem iv_V_checkNameFree_6 {G : xa_G} {rest fs : List Value} {h : xa_H} {b : Nat} {a1 a2 : Value} (hb : h b = some (.inr (2, fs))) : xa_inv G mm_V_checkNameFree mm_F_entryNamed 6 (a2 :: a1 :: .ref b :: rest) [.ref b, a1, a2] rest h := xi_V (n := 2) (As := [a1, a2]) dd_V_checkNameFree_6 ok_F_entryNamed iw_179 iw_180 rfl iw_181 (by decide +kernel) rfl hb
theorem iv_V_close_1 {G : xa_G} {rest fs : List Value} {h : xa_H} {b : Nat} (hb : h b = some (.inr (0, fs))) : xa_inv G mm_V_close mm_V_checkPower 1 (.ref b :: rest) [.ref b] rest h := xi_V (n := 0) (As := []) dd_V_close_1 ok_V_checkPower iw_432 iw_434 rfl ps_5 (by decide +kernel) rfl hb
theorem iv_V_close_9 {G : xa_G} {rest fs : List Value} {h : xa_H} {b : Nat} {a1 : Value} (hb : h b = some (.inr (6, fs))) : xa_inv G mm_V_close mm_H_gatheringOf 9 (a1 :: .ref b :: rest) [.ref b, a1] rest h := xi_V (n := 1) (As := [a1]) dd_V_close_9 ok_H_gatheringOf iw_907 iw_268 rfl iw_269 (by decide +kernel) rfl hb
theorem iv_V_close_29 {G : xa_G} {rest fs : List Value} {h : xa_H} {b : Nat} {a1 : Value} (hb : h b = some (.inr (0, fs))) : xa_inv G mm_V_close mm_V_writeClosingNote 29 (a1 :: .ref b :: rest) [.ref b, a1] rest h := xi_V (n := 1) (As := [a1]) dd_V_close_29 ok_V_writeClosingNote iw_584 iw_586 rfl ps_12 (by decide +kernel) rfl hb
theorem iv_V_copied_2 {G : xa_G} {rest fs : List Value} {h : xa_H} {b : Nat} {a1 : Value} (hb : h b = some (.inr (0, fs))) : xa_inv G mm_V_copied mm_V_subscriberAt 2 (a1 :: .ref b :: rest) [.ref b, a1] rest h := xi_V (n := 1) (As := [a1]) dd_V_copied_2 ok_V_subscriberAt iw_948 iw_950 rfl ps_17 (by decide +kernel) rfl hb
theorem iv_V_copied_9 {G : xa_G} {rest : List Value} {h : xa_H} {a1 a2 : Value} : xa_inv G mm_V_copied mm_V_checkItem 9 (a2 :: a1 :: rest) [a1, a2] rest h := xi_S (n := 2) (as := [a1, a2]) dd_V_copied_9 ok_V_checkItem iw_917 iw_918 (by decide +kernel) rfl
theorem iv_V_copied_18 {G : xa_G} {rest fs : List Value} {h : xa_H} {b : Nat} {a1 : Value} (hb : h b = some (.inr (2, fs))) : xa_inv G mm_V_copied mm_F_entryOf 18 (a1 :: .ref b :: rest) [.ref b, a1] rest h := xi_V (n := 1) (As := [a1]) dd_V_copied_18 ok_F_entryOf iw_360 iw_361 rfl iw_362 (by decide +kernel) rfl hb
theorem iv_V_copied_41 {G : xa_G} {rest fs : List Value} {h : xa_H} {b : Nat} {a1 : Value} (hb : h b = some (.inr (1, fs))) : xa_inv G mm_V_copied mm_E_item 41 (a1 :: .ref b :: rest) [.ref b, a1] rest h := xi_V (n := 1) (As := [a1]) dd_V_copied_41 ok_E_item iw_923 iw_924 rfl iw_925 (by decide +kernel) rfl hb
theorem iv_V_cursor_2 {G : xa_G} {rest fs : List Value} {h : xa_H} {b : Nat} {a1 : Value} (hb : h b = some (.inr (0, fs))) : xa_inv G mm_V_cursor mm_V_subscriberAt 2 (a1 :: .ref b :: rest) [.ref b, a1] rest h := xi_V (n := 1) (As := [a1]) dd_V_cursor_2 ok_V_subscriberAt iw_948 iw_950 rfl ps_17 (by decide +kernel) rfl hb
theorem iv_V_endGathering_10 {G : xa_G} {rest fs : List Value} {h : xa_H} {b : Nat} {a1 : Value} (hb : h b = some (.inr (2, fs))) : xa_inv G mm_V_endGathering mm_F_entryOf 10 (a1 :: .ref b :: rest) [.ref b, a1] rest h := xi_V (n := 1) (As := [a1]) dd_V_endGathering_10 ok_F_entryOf iw_360 iw_361 rfl iw_362 (by decide +kernel) rfl hb
theorem iv_V_endGathering_27 {G : xa_G} {rest : List Value} {h : xa_H} {b : Nat} {a1 a2 a3 a4 a5 : Value} : xa_inv G mm_V_endGathering mm_E_init 27 (a5 :: a4 :: a3 :: a2 :: a1 :: .ref b :: rest) [.ref b, a1, a2, a3, a4, a5] rest h := xi_I (n := 5) (As := [a1, a2, a3, a4, a5]) dd_V_endGathering_27 ok_E_init rfl iw_368 iw_366 iw_367 (by decide +kernel) rfl
theorem iv_V_endGathering_43 {G : xa_G} {rest fs : List Value} {h : xa_H} {b : Nat} {a1 a2 : Value} (hb : h b = some (.inr (4, fs))) : xa_inv G mm_V_endGathering mm_R_append 43 (a2 :: a1 :: .ref b :: rest) [.ref b, a1, a2] rest h := xi_V (n := 2) (As := [a1, a2]) dd_V_endGathering_43 ok_R_append iw_397 iw_398 rfl iw_399 (by decide +kernel) rfl hb
theorem iv_V_endGathering_51 {G : xa_G} {rest fs : List Value} {h : xa_H} {b : Nat} {a1 : Value} (hb : h b = some (.inr (6, fs))) : xa_inv G mm_V_endGathering mm_H_take 51 (a1 :: .ref b :: rest) [.ref b, a1] rest h := xi_V (n := 1) (As := [a1]) dd_V_endGathering_51 ok_H_take iw_416 iw_247 rfl iw_248 (by decide +kernel) rfl hb
theorem iv_V_find_6 {G : xa_G} {rest fs : List Value} {h : xa_H} {b : Nat} {a1 a2 : Value} (hb : h b = some (.inr (2, fs))) : xa_inv G mm_V_find mm_F_entryNamed 6 (a2 :: a1 :: .ref b :: rest) [.ref b, a1, a2] rest h := xi_V (n := 2) (As := [a1, a2]) dd_V_find_6 ok_F_entryNamed iw_179 iw_180 rfl iw_181 (by decide +kernel) rfl hb
theorem iv_V_follow_2 {G : xa_G} {rest fs : List Value} {h : xa_H} {b : Nat} {a1 : Value} (hb : h b = some (.inr (0, fs))) : xa_inv G mm_V_follow mm_V_subscriberAt 2 (a1 :: .ref b :: rest) [.ref b, a1] rest h := xi_V (n := 1) (As := [a1]) dd_V_follow_2 ok_V_subscriberAt iw_948 iw_950 rfl ps_17 (by decide +kernel) rfl hb
theorem iv_V_follow_47 {G : xa_G} {rest fs : List Value} {h : xa_H} {b : Nat} {a1 a2 : Value} (hb : h b = some (.inr (7, fs))) : xa_inv G mm_V_follow mm_S_act 47 (a2 :: a1 :: .ref b :: rest) [.ref b, a1, a2] rest h := xi_V (n := 2) (As := [a1, a2]) dd_V_follow_47 ok_S_act iw_1022 iw_1023 rfl iw_1024 (by decide +kernel) rfl hb
theorem iv_V_head_4 {G : xa_G} {rest fs : List Value} {h : xa_H} {b : Nat} (hb : h b = some (.inr (4, fs))) : xa_inv G mm_V_head mm_R_nextSerial 4 (.ref b :: rest) [.ref b] rest h := xi_V (n := 0) (As := []) dd_V_head_4 ok_R_nextSerial iw_219 iw_220 rfl iw_221 (by decide +kernel) rfl hb
theorem iv_V_inStep_2 {G : xa_G} {rest fs : List Value} {h : xa_H} {b : Nat} {a1 : Value} (hb : h b = some (.inr (0, fs))) : xa_inv G mm_V_inStep mm_V_subscriberAt 2 (a1 :: .ref b :: rest) [.ref b, a1] rest h := xi_V (n := 1) (As := [a1]) dd_V_inStep_2 ok_V_subscriberAt iw_948 iw_950 rfl ps_17 (by decide +kernel) rfl hb
theorem iv_V_inStep_12 {G : xa_G} {rest fs : List Value} {h : xa_H} {b : Nat} {a1 : Value} (hb : h b = some (.inr (2, fs))) : xa_inv G mm_V_inStep mm_F_isLike 12 (a1 :: .ref b :: rest) [.ref b, a1] rest h := xi_V (n := 1) (As := [a1]) dd_V_inStep_12 ok_F_isLike iw_1064 iw_1065 rfl iw_1066 (by decide +kernel) rfl hb
theorem iv_V_isOrLiesIn_24 {G : xa_G} {rest fs : List Value} {h : xa_H} {b : Nat} {a1 : Value} (hb : h b = some (.inr (2, fs))) : xa_inv G mm_V_isOrLiesIn mm_F_entryOf 24 (a1 :: .ref b :: rest) [.ref b, a1] rest h := xi_V (n := 1) (As := [a1]) dd_V_isOrLiesIn_24 ok_F_entryOf iw_360 iw_361 rfl iw_362 (by decide +kernel) rfl hb
theorem iv_V_list_2 {G : xa_G} {rest fs : List Value} {h : xa_H} {b : Nat} {a1 : Value} (hb : h b = some (.inr (0, fs))) : xa_inv G mm_V_list mm_V_subscriberAt 2 (a1 :: .ref b :: rest) [.ref b, a1] rest h := xi_V (n := 1) (As := [a1]) dd_V_list_2 ok_V_subscriberAt iw_948 iw_950 rfl ps_17 (by decide +kernel) rfl hb
theorem iv_V_list_9 {G : xa_G} {rest fs : List Value} {h : xa_H} {b : Nat} {a1 : Value} (hb : h b = some (.inr (7, fs))) : xa_inv G mm_V_list mm_S_beginListing 9 (a1 :: .ref b :: rest) [.ref b, a1] rest h := xi_V (n := 1) (As := [a1]) dd_V_list_9 ok_S_beginListing iw_987 iw_988 rfl iw_989 (by decide +kernel) rfl hb
theorem iv_V_live_4 {G : xa_G} {rest fs : List Value} {h : xa_H} {b : Nat} (hb : h b = some (.inr (2, fs))) : xa_inv G mm_V_live mm_F_count 4 (.ref b :: rest) [.ref b] rest h := xi_V (n := 0) (As := []) dd_V_live_4 ok_F_count iw_203 iw_204 rfl iw_205 (by decide +kernel) rfl hb
theorem iv_V_liveEntry_5 {G : xa_G} {rest fs : List Value} {h : xa_H} {b : Nat} {a1 : Value} (hb : h b = some (.inr (2, fs))) : xa_inv G mm_V_liveEntry mm_F_entryOf 5 (a1 :: .ref b :: rest) [.ref b, a1] rest h := xi_V (n := 1) (As := [a1]) dd_V_liveEntry_5 ok_F_entryOf iw_360 iw_361 rfl iw_362 (by decide +kernel) rfl hb
theorem iv_V_make_1 {G : xa_G} {rest fs : List Value} {h : xa_H} {b : Nat} (hb : h b = some (.inr (0, fs))) : xa_inv G mm_V_make mm_V_checkPower 1 (.ref b :: rest) [.ref b] rest h := xi_V (n := 0) (As := []) dd_V_make_1 ok_V_checkPower iw_432 iw_434 rfl ps_5 (by decide +kernel) rfl hb
theorem iv_V_make_8 {G : xa_G} {rest fs : List Value} {h : xa_H} {b : Nat} (hb : h b = some (.inr (2, fs))) : xa_inv G mm_V_make mm_F_count 8 (.ref b :: rest) [.ref b] rest h := xi_V (n := 0) (As := []) dd_V_make_8 ok_F_count iw_203 iw_204 rfl iw_205 (by decide +kernel) rfl hb
theorem iv_V_make_27 {G : xa_G} {rest : List Value} {h : xa_H} {a1 : Value} : xa_inv G mm_V_make mm_V_checkName 27 (a1 :: rest) [a1] rest h := xi_S (n := 1) (as := [a1]) dd_V_make_27 ok_V_checkName iw_507 iw_508 (by decide +kernel) rfl
theorem iv_V_make_32 {G : xa_G} {rest fs : List Value} {h : xa_H} {b : Nat} {a1 : Value} (hb : h b = some (.inr (0, fs))) : xa_inv G mm_V_make mm_V_checkFolder 32 (a1 :: .ref b :: rest) [.ref b, a1] rest h := xi_V (n := 1) (As := [a1]) dd_V_make_32 ok_V_checkFolder iw_526 iw_528 rfl ps_7 (by decide +kernel) rfl hb
theorem iv_V_make_39 {G : xa_G} {rest fs : List Value} {h : xa_H} {b : Nat} {a1 a2 a3 : Value} (hb : h b = some (.inr (0, fs))) : xa_inv G mm_V_make mm_V_checkNameFree 39 (a3 :: a2 :: a1 :: .ref b :: rest) [.ref b, a1, a2, a3] rest h := xi_V (n := 3) (As := [a1, a2, a3]) dd_V_make_39 ok_V_checkNameFree iw_566 iw_568 rfl ps_9 (by decide +kernel) rfl hb
theorem iv_V_make_62 {G : xa_G} {rest : List Value} {h : xa_H} {b : Nat} {a1 a2 a3 a4 a5 : Value} : xa_inv G mm_V_make mm_E_init 62 (a5 :: a4 :: a3 :: a2 :: a1 :: .ref b :: rest) [.ref b, a1, a2, a3, a4, a5] rest h := xi_I (n := 5) (As := [a1, a2, a3, a4, a5]) dd_V_make_62 ok_E_init rfl iw_368 iw_366 iw_367 (by decide +kernel) rfl
theorem iv_V_make_71 {G : xa_G} {rest fs : List Value} {h : xa_H} {b : Nat} {a1 a2 : Value} (hb : h b = some (.inr (0, fs))) : xa_inv G mm_V_make mm_V_noteAndDo 71 (a2 :: a1 :: .ref b :: rest) [.ref b, a1, a2] rest h := xi_V (n := 2) (As := [a1, a2]) dd_V_make_71 ok_V_noteAndDo iw_571 iw_573 rfl ps_10 (by decide +kernel) rfl hb
theorem iv_V_note_5 {G : xa_G} {rest fs : List Value} {h : xa_H} {b : Nat} {a1 : Value} (hb : h b = some (.inr (4, fs))) : xa_inv G mm_V_note mm_R_noteAt 5 (a1 :: .ref b :: rest) [.ref b, a1] rest h := xi_V (n := 1) (As := [a1]) dd_V_note_5 ok_R_noteAt iw_934 iw_238 rfl iw_239 (by decide +kernel) rfl hb
theorem iv_V_note_26 {G : xa_G} {rest : List Value} {h : xa_H} {a1 a2 : Value} : xa_inv G mm_V_note mm_V_checkItem 26 (a2 :: a1 :: rest) [a1, a2] rest h := xi_S (n := 2) (as := [a1, a2]) dd_V_note_26 ok_V_checkItem iw_917 iw_918 (by decide +kernel) rfl
theorem iv_V_note_31 {G : xa_G} {rest fs : List Value} {h : xa_H} {b : Nat} {a1 : Value} (hb : h b = some (.inr (3, fs))) : xa_inv G mm_V_note mm_N_item 31 (a1 :: .ref b :: rest) [.ref b, a1] rest h := xi_V (n := 1) (As := [a1]) dd_V_note_31 ok_N_item iw_936 iw_937 rfl iw_938 (by decide +kernel) rfl hb
theorem iv_V_noteAndDo_3 {G : xa_G} {rest fs : List Value} {h : xa_H} {b : Nat} {a1 a2 : Value} (hb : h b = some (.inr (0, fs))) : xa_inv G mm_V_noteAndDo mm_V_writeChangeNote 3 (a2 :: a1 :: .ref b :: rest) [.ref b, a1, a2] rest h := xi_V (n := 2) (As := [a1, a2]) dd_V_noteAndDo_3 ok_V_writeChangeNote iw_575 iw_577 rfl ps_11 (by decide +kernel) rfl hb
theorem iv_V_noteAndDo_10 {G : xa_G} {rest fs : List Value} {h : xa_H} {b : Nat} (hb : h b = some (.inr (0, fs))) : xa_inv G mm_V_noteAndDo mm_V_spendWrite 10 (.ref b :: rest) [.ref b] rest h := xi_V (n := 0) (As := []) dd_V_noteAndDo_10 ok_V_spendWrite iw_588 iw_590 rfl ps_13 (by decide +kernel) rfl hb
theorem iv_V_noteAndDo_23 {G : xa_G} {rest fs : List Value} {h : xa_H} {b : Nat} {a1 : Value} (hb : h b = some (.inr (2, fs))) : xa_inv G mm_V_noteAndDo mm_F_put 23 (a1 :: .ref b :: rest) [.ref b, a1] rest h := xi_V (n := 1) (As := [a1]) dd_V_noteAndDo_23 ok_F_put iw_597 iw_598 rfl iw_599 (by decide +kernel) rfl hb
theorem iv_V_of_2 {G : xa_G} {rest fs : List Value} {h : xa_H} {b : Nat} {a1 : Value} (hb : h b = some (.inr (0, fs))) : xa_inv G mm_V_of mm_V_liveEntry 2 (a1 :: .ref b :: rest) [.ref b, a1] rest h := xi_V (n := 1) (As := [a1]) dd_V_of_2 ok_V_liveEntry iw_530 iw_532 rfl ps_8 (by decide +kernel) rfl hb
theorem iv_V_of_8 {G : xa_G} {rest : List Value} {h : xa_H} {a1 a2 : Value} : xa_inv G mm_V_of mm_V_checkItem 8 (a2 :: a1 :: rest) [a1, a2] rest h := xi_S (n := 2) (as := [a1, a2]) dd_V_of_8 ok_V_checkItem iw_917 iw_918 (by decide +kernel) rfl
theorem iv_V_of_13 {G : xa_G} {rest fs : List Value} {h : xa_H} {b : Nat} {a1 : Value} (hb : h b = some (.inr (1, fs))) : xa_inv G mm_V_of mm_E_item 13 (a1 :: .ref b :: rest) [.ref b, a1] rest h := xi_V (n := 1) (As := [a1]) dd_V_of_13 ok_E_item iw_923 iw_924 rfl iw_925 (by decide +kernel) rfl hb
theorem iv_V_open_4 {G : xa_G} {rest fs : List Value} {h : xa_H} {b : Nat} (hb : h b = some (.inr (6, fs))) : xa_inv G mm_V_open mm_H_count 4 (.ref b :: rest) [.ref b] rest h := xi_V (n := 0) (As := []) dd_V_open_4 ok_H_count iw_167 iw_168 rfl iw_169 (by decide +kernel) rfl hb
theorem iv_V_page_2 {G : xa_G} {rest fs : List Value} {h : xa_H} {b : Nat} {a1 : Value} (hb : h b = some (.inr (0, fs))) : xa_inv G mm_V_page mm_V_subscriberAt 2 (a1 :: .ref b :: rest) [.ref b, a1] rest h := xi_V (n := 1) (As := [a1]) dd_V_page_2 ok_V_subscriberAt iw_948 iw_950 rfl ps_17 (by decide +kernel) rfl hb
theorem iv_V_page_28 {G : xa_G} {rest fs : List Value} {h : xa_H} {b : Nat} {a1 : Value} (hb : h b = some (.inr (7, fs))) : xa_inv G mm_V_page mm_S_showPage 28 (a1 :: .ref b :: rest) [.ref b, a1] rest h := xi_V (n := 1) (As := [a1]) dd_V_page_28 ok_S_showPage iw_999 iw_1000 rfl iw_1001 (by decide +kernel) rfl hb
theorem iv_V_read_2 {G : xa_G} {rest fs : List Value} {h : xa_H} {b : Nat} {a1 : Value} (hb : h b = some (.inr (0, fs))) : xa_inv G mm_V_read mm_V_subscriberAt 2 (a1 :: .ref b :: rest) [.ref b, a1] rest h := xi_V (n := 1) (As := [a1]) dd_V_read_2 ok_V_subscriberAt iw_948 iw_950 rfl ps_17 (by decide +kernel) rfl hb
theorem iv_V_read_15 {G : xa_G} {rest fs : List Value} {h : xa_H} {b : Nat} {a1 a2 : Value} (hb : h b = some (.inr (7, fs))) : xa_inv G mm_V_read mm_S_takeNote 15 (a2 :: a1 :: .ref b :: rest) [.ref b, a1, a2] rest h := xi_V (n := 2) (As := [a1, a2]) dd_V_read_15 ok_S_takeNote iw_973 iw_974 rfl iw_975 (by decide +kernel) rfl hb
theorem iv_V_remove_1 {G : xa_G} {rest fs : List Value} {h : xa_H} {b : Nat} (hb : h b = some (.inr (0, fs))) : xa_inv G mm_V_remove mm_V_checkPower 1 (.ref b :: rest) [.ref b] rest h := xi_V (n := 0) (As := []) dd_V_remove_1 ok_V_checkPower iw_432 iw_434 rfl ps_5 (by decide +kernel) rfl hb
theorem iv_V_remove_6 {G : xa_G} {rest fs : List Value} {h : xa_H} {b : Nat} {a1 : Value} (hb : h b = some (.inr (0, fs))) : xa_inv G mm_V_remove mm_V_liveEntry 6 (a1 :: .ref b :: rest) [.ref b, a1] rest h := xi_V (n := 1) (As := [a1]) dd_V_remove_6 ok_V_liveEntry iw_530 iw_532 rfl ps_8 (by decide +kernel) rfl hb
theorem iv_V_remove_15 {G : xa_G} {rest fs : List Value} {h : xa_H} {b : Nat} {a1 : Value} (hb : h b = some (.inr (2, fs))) : xa_inv G mm_V_remove mm_F_hasFilesIn 15 (a1 :: .ref b :: rest) [.ref b, a1] rest h := xi_V (n := 1) (As := [a1]) dd_V_remove_15 ok_F_hasFilesIn iw_890 iw_891 rfl iw_892 (by decide +kernel) rfl hb
theorem iv_V_remove_35 {G : xa_G} {rest fs : List Value} {h : xa_H} {b : Nat} {a1 a2 : Value} (hb : h b = some (.inr (0, fs))) : xa_inv G mm_V_remove mm_V_writeChangeNote 35 (a2 :: a1 :: .ref b :: rest) [.ref b, a1, a2] rest h := xi_V (n := 2) (As := [a1, a2]) dd_V_remove_35 ok_V_writeChangeNote iw_575 iw_577 rfl ps_11 (by decide +kernel) rfl hb
theorem iv_V_remove_42 {G : xa_G} {rest fs : List Value} {h : xa_H} {b : Nat} (hb : h b = some (.inr (0, fs))) : xa_inv G mm_V_remove mm_V_spendWrite 42 (.ref b :: rest) [.ref b] rest h := xi_V (n := 0) (As := []) dd_V_remove_42 ok_V_spendWrite iw_588 iw_590 rfl ps_13 (by decide +kernel) rfl hb
theorem iv_V_remove_55 {G : xa_G} {rest fs : List Value} {h : xa_H} {b : Nat} {a1 : Value} (hb : h b = some (.inr (2, fs))) : xa_inv G mm_V_remove mm_F_drop 55 (a1 :: .ref b :: rest) [.ref b, a1] rest h := xi_V (n := 1) (As := [a1]) dd_V_remove_55 ok_F_drop iw_895 iw_896 rfl iw_897 (by decide +kernel) rfl hb
theorem iv_V_rename_1 {G : xa_G} {rest fs : List Value} {h : xa_H} {b : Nat} (hb : h b = some (.inr (0, fs))) : xa_inv G mm_V_rename mm_V_checkPower 1 (.ref b :: rest) [.ref b] rest h := xi_V (n := 0) (As := []) dd_V_rename_1 ok_V_checkPower iw_432 iw_434 rfl ps_5 (by decide +kernel) rfl hb
theorem iv_V_rename_5 {G : xa_G} {rest : List Value} {h : xa_H} {a1 : Value} : xa_inv G mm_V_rename mm_V_checkName 5 (a1 :: rest) [a1] rest h := xi_S (n := 1) (as := [a1]) dd_V_rename_5 ok_V_checkName iw_507 iw_508 (by decide +kernel) rfl
theorem iv_V_rename_10 {G : xa_G} {rest fs : List Value} {h : xa_H} {b : Nat} {a1 : Value} (hb : h b = some (.inr (0, fs))) : xa_inv G mm_V_rename mm_V_liveEntry 10 (a1 :: .ref b :: rest) [.ref b, a1] rest h := xi_V (n := 1) (As := [a1]) dd_V_rename_10 ok_V_liveEntry iw_530 iw_532 rfl ps_8 (by decide +kernel) rfl hb
theorem iv_V_rename_17 {G : xa_G} {rest fs : List Value} {h : xa_H} {b : Nat} {a1 : Value} (hb : h b = some (.inr (0, fs))) : xa_inv G mm_V_rename mm_V_checkFolder 17 (a1 :: .ref b :: rest) [.ref b, a1] rest h := xi_V (n := 1) (As := [a1]) dd_V_rename_17 ok_V_checkFolder iw_526 iw_528 rfl ps_7 (by decide +kernel) rfl hb
theorem iv_V_rename_23 {G : xa_G} {rest fs : List Value} {h : xa_H} {b : Nat} {a1 a2 : Value} (hb : h b = some (.inr (0, fs))) : xa_inv G mm_V_rename mm_V_isOrLiesIn 23 (a2 :: a1 :: .ref b :: rest) [.ref b, a1, a2] rest h := xi_V (n := 2) (As := [a1, a2]) dd_V_rename_23 ok_V_isOrLiesIn iw_878 iw_880 rfl ps_16 (by decide +kernel) rfl hb
theorem iv_V_rename_43 {G : xa_G} {rest fs : List Value} {h : xa_H} {b : Nat} {a1 a2 a3 : Value} (hb : h b = some (.inr (0, fs))) : xa_inv G mm_V_rename mm_V_checkNameFree 43 (a3 :: a2 :: a1 :: .ref b :: rest) [.ref b, a1, a2, a3] rest h := xi_V (n := 3) (As := [a1, a2, a3]) dd_V_rename_43 ok_V_checkNameFree iw_566 iw_568 rfl ps_9 (by decide +kernel) rfl hb
theorem iv_V_rename_82 {G : xa_G} {rest fs : List Value} {h : xa_H} {b : Nat} {a1 a2 : Value} (hb : h b = some (.inr (0, fs))) : xa_inv G mm_V_rename mm_V_writeChangeNote 82 (a2 :: a1 :: .ref b :: rest) [.ref b, a1, a2] rest h := xi_V (n := 2) (As := [a1, a2]) dd_V_rename_82 ok_V_writeChangeNote iw_575 iw_577 rfl ps_11 (by decide +kernel) rfl hb
theorem iv_V_rename_107 {G : xa_G} {rest : List Value} {h : xa_H} {b : Nat} {a1 a2 a3 a4 a5 : Value} : xa_inv G mm_V_rename mm_E_init 107 (a5 :: a4 :: a3 :: a2 :: a1 :: .ref b :: rest) [.ref b, a1, a2, a3, a4, a5] rest h := xi_I (n := 5) (As := [a1, a2, a3, a4, a5]) dd_V_rename_107 ok_E_init rfl iw_368 iw_366 iw_367 (by decide +kernel) rfl
theorem iv_V_rename_127 {G : xa_G} {rest fs : List Value} {h : xa_H} {b : Nat} {a1 a2 : Value} (hb : h b = some (.inr (0, fs))) : xa_inv G mm_V_rename mm_V_noteAndDo 127 (a2 :: a1 :: .ref b :: rest) [.ref b, a1, a2] rest h := xi_V (n := 2) (As := [a1, a2]) dd_V_rename_127 ok_V_noteAndDo iw_571 iw_573 rfl ps_10 (by decide +kernel) rfl hb
theorem iv_V_shown_2 {G : xa_G} {rest fs : List Value} {h : xa_H} {b : Nat} {a1 : Value} (hb : h b = some (.inr (0, fs))) : xa_inv G mm_V_shown mm_V_subscriberAt 2 (a1 :: .ref b :: rest) [.ref b, a1] rest h := xi_V (n := 1) (As := [a1]) dd_V_shown_2 ok_V_subscriberAt iw_948 iw_950 rfl ps_17 (by decide +kernel) rfl hb
theorem iv_V_spendWrite_16 {G : xa_G} {rest fs : List Value} {h : xa_H} {b : Nat} (hb : h b = some (.inr (6, fs))) : xa_inv G mm_V_spendWrite mm_H_forget 16 (.ref b :: rest) [.ref b] rest h := xi_V (n := 0) (As := []) dd_V_spendWrite_16 ok_H_forget iw_592 iw_593 rfl iw_594 (by decide +kernel) rfl hb
theorem iv_V_start_27 {G : xa_G} {rest fs : List Value} {h : xa_H} {b : Nat} {a1 : Value} (hb : h b = some (.inr (6, fs))) : xa_inv G mm_V_start mm_H_recall 27 (a1 :: .ref b :: rest) [.ref b, a1] rest h := xi_V (n := 1) (As := [a1]) dd_V_start_27 ok_H_recall iw_227 iw_228 rfl iw_229 (by decide +kernel) rfl hb
theorem iv_V_start_34 {G : xa_G} {rest fs : List Value} {h : xa_H} {b : Nat} (hb : h b = some (.inr (6, fs))) : xa_inv G mm_V_start mm_H_count 34 (.ref b :: rest) [.ref b] rest h := xi_V (n := 0) (As := []) dd_V_start_34 ok_H_count iw_167 iw_168 rfl iw_169 (by decide +kernel) rfl hb
theorem iv_V_start_49 {G : xa_G} {rest fs : List Value} {h : xa_H} {b : Nat} (hb : h b = some (.inr (6, fs))) : xa_inv G mm_V_start mm_H_first 49 (.ref b :: rest) [.ref b] rest h := xi_V (n := 0) (As := []) dd_V_start_49 ok_H_first iw_348 iw_349 rfl iw_350 (by decide +kernel) rfl hb
theorem iv_V_start_59 {G : xa_G} {rest fs : List Value} {h : xa_H} {b : Nat} {a1 : Value} (hb : h b = some (.inr (0, fs))) : xa_inv G mm_V_start mm_V_endGathering 59 (a1 :: .ref b :: rest) [.ref b, a1] rest h := xi_V (n := 1) (As := [a1]) dd_V_start_59 ok_V_endGathering iw_356 iw_358 rfl ps_4 (by decide +kernel) rfl hb
theorem iv_V_subscribe_2 {G : xa_G} {rest fs : List Value} {h : xa_H} {b : Nat} {a1 : Value} (hb : h b = some (.inr (0, fs))) : xa_inv G mm_V_subscribe mm_V_subscriberAt 2 (a1 :: .ref b :: rest) [.ref b, a1] rest h := xi_V (n := 1) (As := [a1]) dd_V_subscribe_2 ok_V_subscriberAt iw_948 iw_950 rfl ps_17 (by decide +kernel) rfl hb
theorem iv_V_subscribe_32 {G : xa_G} {rest fs : List Value} {h : xa_H} {b : Nat} {a1 a2 : Value} (hb : h b = some (.inr (7, fs))) : xa_inv G mm_V_subscribe mm_S_beginAnew 32 (a2 :: a1 :: .ref b :: rest) [.ref b, a1, a2] rest h := xi_V (n := 2) (As := [a1, a2]) dd_V_subscribe_32 ok_S_beginAnew iw_954 iw_955 rfl iw_956 (by decide +kernel) rfl hb
theorem iv_V_tail_4 {G : xa_G} {rest fs : List Value} {h : xa_H} {b : Nat} (hb : h b = some (.inr (4, fs))) : xa_inv G mm_V_tail mm_R_leastKept 4 (.ref b :: rest) [.ref b] rest h := xi_V (n := 0) (As := []) dd_V_tail_4 ok_R_leastKept iw_211 iw_212 rfl iw_213 (by decide +kernel) rfl hb
theorem iv_V_writeChangeNote_8 {G : xa_G} {rest fs : List Value} {h : xa_H} {b : Nat} {a1 : Value} (hb : h b = some (.inr (6, fs))) : xa_inv G mm_V_writeChangeNote mm_H_inTheWayOf 8 (a1 :: .ref b :: rest) [.ref b, a1] rest h := xi_V (n := 1) (As := [a1]) dd_V_writeChangeNote_8 ok_H_inTheWayOf iw_579 iw_580 rfl iw_581 (by decide +kernel) rfl hb
theorem iv_V_writeChangeNote_18 {G : xa_G} {rest fs : List Value} {h : xa_H} {b : Nat} {a1 : Value} (hb : h b = some (.inr (0, fs))) : xa_inv G mm_V_writeChangeNote mm_V_writeClosingNote 18 (a1 :: .ref b :: rest) [.ref b, a1] rest h := xi_V (n := 1) (As := [a1]) dd_V_writeChangeNote_18 ok_V_writeClosingNote iw_584 iw_586 rfl ps_12 (by decide +kernel) rfl hb
theorem iv_V_writeChangeNote_27 {G : xa_G} {rest fs : List Value} {h : xa_H} {b : Nat} (hb : h b = some (.inr (0, fs))) : xa_inv G mm_V_writeChangeNote mm_V_spendWrite 27 (.ref b :: rest) [.ref b] rest h := xi_V (n := 0) (As := []) dd_V_writeChangeNote_27 ok_V_spendWrite iw_588 iw_590 rfl ps_13 (by decide +kernel) rfl hb
theorem iv_V_writeChangeNote_49 {G : xa_G} {rest fs : List Value} {h : xa_H} {b : Nat} {a1 a2 : Value} (hb : h b = some (.inr (6, fs))) : xa_inv G mm_V_writeChangeNote mm_H_gather 49 (a2 :: a1 :: .ref b :: rest) [.ref b, a1, a2] rest h := xi_V (n := 2) (As := [a1, a2]) dd_V_writeChangeNote_49 ok_H_gather iw_596 iw_264 rfl iw_265 (by decide +kernel) rfl hb
theorem iv_V_writeChangeNote_52 {G : xa_G} {rest fs : List Value} {h : xa_H} {b : Nat} {a1 a2 : Value} (hb : h b = some (.inr (4, fs))) : xa_inv G mm_V_writeChangeNote mm_R_append 52 (a2 :: a1 :: .ref b :: rest) [.ref b, a1, a2] rest h := xi_V (n := 2) (As := [a1, a2]) dd_V_writeChangeNote_52 ok_R_append iw_397 iw_398 rfl iw_399 (by decide +kernel) rfl hb
theorem iv_V_writeClosingNote_1 {G : xa_G} {rest fs : List Value} {h : xa_H} {b : Nat} (hb : h b = some (.inr (0, fs))) : xa_inv G mm_V_writeClosingNote mm_V_spendWrite 1 (.ref b :: rest) [.ref b] rest h := xi_V (n := 0) (As := []) dd_V_writeClosingNote_1 ok_V_spendWrite iw_588 iw_590 rfl ps_13 (by decide +kernel) rfl hb
theorem iv_V_writeClosingNote_11 {G : xa_G} {rest fs : List Value} {h : xa_H} {b : Nat} {a1 : Value} (hb : h b = some (.inr (0, fs))) : xa_inv G mm_V_writeClosingNote mm_V_endGathering 11 (a1 :: .ref b :: rest) [.ref b, a1] rest h := xi_V (n := 1) (As := [a1]) dd_V_writeClosingNote_11 ok_V_endGathering iw_356 iw_358 rfl ps_4 (by decide +kernel) rfl hb
theorem ol_S_3 : Cond.methodLink "NotedVolume$Subscriber" 3 ⟨"java/lang/Object", "<init>", "()V"⟩ ∈ xv_T := iw_113
theorem ar_int : Cond.arrayClass .int ∈ xv_T := iw_140
theorem ic_S_86 : Cond.constant "NotedVolume$Subscriber" 86 (2147483647 : Int32) ∈ xv_T := iw_1031
theorem ol_V_1 : Cond.methodLink "NotedVolume" 1 ⟨"java/lang/Object", "<init>", "()V"⟩ ∈ xv_T := iw_38
theorem an_V_32 : Cond.classLink "NotedVolume" 32 "NotedVolume$Subscriber" ∈ xv_T := iw_107
end
section
/-! Subscriber (by program: wip/whole/mk23.py) -/
section NA
variable {G : xa_G} {M : xa_M} {dp kc ks pc : Nat} {L : List (Option Value)} {st : List Value} {h : xa_H} {sz : Nat} {Q : Outcome → xa_H → Nat → Prop}
theorem xw_inewA {N : Nat} {n : Int32} (hd : decode M.2.1 pc = .ok (.newarray .int, 2)) (hn : ¬ n < 0) (hN : n.toNatClampNeg = N) (hby : N * 4 ≤ 536870912) (kk : ∀ h1 : xa_H, h1 sz = some (.inl (0, (N, .inl (fun _ => 0)))) → (∀ b, b ≠ sz → h1 b = h b) → xa_W G M dp kc ks (pc + 2) L (.ref sz :: st) h1 (sz + 1) Q) : xa_W G M dp (kc + 1) (ks + N) pc L (.int n :: st) h sz Q :=
  xw_newa (atype := .int) (ty := .int) (t := 0) (a0 := (N, .inl (fun _ => 0))) rfl (fun _ q => by cases q) rfl ar_int hd (fun _ => rfl) hn hN hby (kk _ (xa_up_eq _ _ _) (fun _ hb => xa_up_ne _ _ hb))
end NA
/-- what sort of cell it is -/
def xt (e : xa_E) : Nat := match e with
  | .inr (c, _) => c
  | .inl (t, _) => 100 + t
theorem ft_at.kp {G : xa_G} {h h1 : xa_H} {t a ea cap : Nat} {most : Int32} {xs : List Nat} {es : List sv_E} (H : ft_at G h t a ea cap most xs es) (hk : ∀ b e, h b = some e → ((b = t ∧ xt e = 2) ∨ (b = a ∧ xt e = 8) ∨ (b = ea ∧ xt e = 103) ∨ xt e = 1) → h1 b = some e) : ft_at G h1 t a ea cap most xs es := by
  obtain ⟨hT, ⟨k1, k2, g, ⟨⟨mc, k3⟩, k4, k5, k6⟩, k7⟩, hE⟩ := H
  exact ⟨hk _ _ hT (Or.inl ⟨rfl, rfl⟩), ⟨k1, k2, g, ⟨⟨mc, hk _ _ k3 (Or.inr (Or.inl ⟨rfl, rfl⟩))⟩, hk _ _ k4 (Or.inr (Or.inr (Or.inl ⟨rfl, rfl⟩))), k5, k6⟩, k7⟩, hE.keep (fun y e hy => (hk _ _ hy (Or.inr (Or.inr (Or.inr rfl)))).trans hy.symm)⟩
theorem gh_at.kp {G : xa_G} {h h1 : xa_H} {t a ea cap : Nat} {gs : List (Int32 × Int32)} (H : gh_at G h t a ea cap gs) (hk : ∀ b e, h b = some e → ((b = t ∧ xt e = 6) ∨ (b = a ∧ xt e = 8) ∨ (b = ea ∧ xt e = 103) ∨ xt e = 5) → h1 b = some e) : gh_at G h1 t a ea cap gs := by
  obtain ⟨xs, hT, ⟨k1, k2, g, ⟨⟨mc, k3⟩, k4, k5, k6⟩, k7⟩, hE, hnd, hB⟩ := H
  exact ⟨xs, hk _ _ hT (Or.inl ⟨rfl, rfl⟩), ⟨k1, k2, g, ⟨⟨mc, hk _ _ k3 (Or.inr (Or.inl ⟨rfl, rfl⟩))⟩, hk _ _ k4 (Or.inr (Or.inr (Or.inl ⟨rfl, rfl⟩))), k5, k6⟩, k7⟩, hE.keep (fun y e hy => (hk _ _ hy (Or.inr (Or.inr (Or.inr rfl)))).trans hy.symm), hnd, hB⟩
theorem rg_at.kp {h h1 : xa_H} {r c hd : Nat} {f : Nat → Option Nat} (H : rg_at h r c hd f) (hk : ∀ b e, h b = some e → ((b = r ∧ xt e = 4) ∨ (b = c ∧ xt e = 104)) → h1 b = some e) : rg_at h1 r c hd f := ⟨hk _ _ H.1 (Or.inl ⟨rfl, rfl⟩), hk _ _ H.2.1 (Or.inr ⟨rfl, rfl⟩), H.2.2⟩
theorem rn_at.kp {h h1 : xa_H} {hd : Nat} {f : Nat → Option Nat} {rg : Nat → Nat → Int32} (H : rn_at h f hd rg) (hk : ∀ b e, h b = some e → (xt e = 3 ∨ xt e = 1) → h1 b = some e) : rn_at h1 f hd rg := by
  intro s h2 h3
  obtain ⟨y, ey, e, r, w1, w2, w3, w4⟩ := H s h2 h3
  exact ⟨y, ey, e, r, w1, hk _ _ w2 (Or.inl rfl), hk _ _ w3 (Or.inr rfl), w4⟩
/-- cells of different sorts are different cells -/
theorem xt_ne {h : xa_H} {a b : Nat} {e e' : xa_E} (ha : h a = some e) (hb : h b = some e') (hn : xt e ≠ xt e') : a ≠ b := by
  intro q
  subst q
  rw [ha] at hb
  cases hb
  exact hn rfl
/-! what a subscriber is: copy, its capacity, page, cursor, mask, listing, the greatest number shown -/
abbrev sv_S : Type := List sv_E × Nat × (Nat → Int32) × Nat × Int32 × Bool × Int32
abbrev su_cp (S : sv_S) : List sv_E := S.1
abbrev su_cap (S : sv_S) : Nat := S.2.1
abbrev su_pg (S : sv_S) : Nat → Int32 := S.2.2.1
abbrev su_cur (S : sv_S) : Nat := S.2.2.2.1
abbrev su_mask (S : sv_S) : Int32 := S.2.2.2.2.1
abbrev su_ls (S : sv_S) : Bool := S.2.2.2.2.2.1
abbrev su_gr (S : sv_S) : Int32 := S.2.2.2.2.2.2
def sv_scan (rg : Nat → Nat → Int32) (mask : Int32) : Nat → Nat → Option Nat
  | 0, _ => none
  | k + 1, s => if rg (s % 16) 5 &&& mask = 0 then sv_scan rg mask k (s + 1) else some s
/-- reading: the answer, the new cursor -/
def sv_read (hd : Nat) (rg : Nat → Nat → Int32) (cur : Nat) (mask : Int32) : Int32 × Nat := if cur < rg_tl hd then (-1, cur) else match sv_scan rg mask (hd - cur) cur with
  | some s => (nI s, s + 1)
  | none => (0, hd)
def sv_pgs (fs : List sv_E) : Nat → Nat → (Nat → Int32) → Int32 → Nat → (Nat → Int32) × Int32 × Nat
  | 0, _, pg, g, n => (pg, g, n)
  | k + 1, i, pg, g, n => match fs.find? (fun e => decide (g < e.1)) with
    | none => sv_pgs fs k (i + 1) (upd pg i (-1)) g n
    | some e => sv_pgs fs k (i + 1) (upd pg i e.1) e.1 (n + 1)
def sv_pag (fs : List sv_E) (S : sv_S) : (Nat → Int32) × Int32 × Nat := sv_pgs fs 4 0 (su_pg S) (su_gr S) 0
/-- a page is shown -/
def sv_page (fs : List sv_E) (S : sv_S) : sv_S := (su_cp S, su_cap S, (sv_pag fs S).1, su_cur S, su_mask S, decide ((sv_pag fs S).2.2 = 4), (sv_pag fs S).2.1)
def sv_lst (hd : Nat) (S : sv_S) : sv_S := (su_cp S, su_cap S, su_pg S, hd, su_mask S, true, 0)
def sv_sub (hd : Nat) (mask : Int32) (S : sv_S) : sv_S := (su_cp S, su_cap S, (fun i => if i < 4 then -1 else su_pg S i), hd, mask, false, su_gr S)
def sv_setC (c : Nat) (S : sv_S) : sv_S := (su_cp S, su_cap S, su_pg S, c, su_mask S, su_ls S, su_gr S)
/-- copies with their capacity -/
def sv_putc (C : List sv_E × Nat) (e : sv_E) : List sv_E × Nat := (sv_put C.1 512 e, if sv_gro C.1 512 C.2 e = true then al_cap C.2 else C.2)
def sv_now (fs : List sv_E) (C : List sv_E × Nat) (f : Int32) : List sv_E × Nat := match sv_find fs f with
  | none => C
  | some e => sv_putc C e
def sv_cps (fs : List sv_E) (pg : Nat → Int32) : Nat → Nat → List sv_E × Nat → List sv_E × Nat
  | 0, _, C => C
  | k + 1, i, C => sv_cps fs pg k (i + 1) (sv_now fs C (pg i))
def sv_del (C : List sv_E × Nat) (f : Int32) : List sv_E × Nat := (C.1.eraseP (fun e => decide (e.1 = f)), C.2)
/-- copy by a page -/
def sv_cpC (fs : List sv_E) (S : sv_S) : List sv_E × Nat := sv_cps fs (su_pg (sv_page fs S)) 4 0 ((su_cp S).filter (sv_out (su_gr S) (if su_ls (sv_page fs S) = true then su_gr (sv_page fs S) else 2147483647)), su_cap S)
def sv_setCp (C : List sv_E × Nat) (S : sv_S) : sv_S := (C.1, C.2, su_pg S, su_cur S, su_mask S, su_ls S, su_gr S)
def sv_cpg (fs : List sv_E) (S : sv_S) : sv_S := sv_setCp (sv_cpC fs S) (sv_page fs S)
/-- copy by a note -/
def sv_cnt (fs : List sv_E) (C : List sv_E × Nat) (e : sv_E) (r : Int32) : List sv_E × Nat := if r &&& 64 = 0 then if r &&& 32 = 0 then sv_putc C e else sv_del C e.1 else sv_now fs (sv_del C e.1) e.1
def sv_nt (rg : Nat → Nat → Int32) (s : Nat) : sv_E := (rg (s % 16) 0, rg (s % 16) 1, rg (s % 16) 2, rg (s % 16) 3, rg (s % 16) 4)
/-- an action of the follower -/
def sv_act (hd : Nat) (rg : Nat → Nat → Int32) (fs : List sv_E) (S : sv_S) : Bool × sv_S := if su_ls S = true then (true, sv_cpg fs S) else if su_cur S < rg_tl hd then (true, sv_lst hd S) else match sv_scan rg 127 (hd - su_cur S) (su_cur S) with
  | some s => (true, sv_setCp (sv_cnt fs (su_cp S, su_cap S) (sv_nt rg s) (rg (s % 16) 5)) (sv_setC (s + 1) S))
  | none => (false, sv_setC hd S)
theorem sv_capC (C : List sv_E × Nat) (e : sv_E) : C.2 ≤ (sv_putc C e).2 := by
  unfold sv_putc
  simp only
  split
  · unfold al_cap; split <;> omega
  · omega
theorem sv_pay (C : List sv_E × Nat) (e : sv_E) : (if sv_gro C.1 512 C.2 e = true then al_cap C.2 else 0) ≤ 4 * ((sv_putc C e).2 - C.2) := by
  unfold sv_putc
  simp only
  split
  · unfold al_cap; split <;> omega
  · omega
theorem sv_cap766 {C : List sv_E × Nat} (e : sv_E) (h : C.2 ≤ 766) : (sv_putc C e).2 ≤ 766 := by
  unfold sv_putc
  simp only
  split
  · rename_i q
    unfold sv_gro at q
    simp at q
    unfold al_cap
    split <;> omega
  · omega
theorem sv_nowC (fs : List sv_E) (C : List sv_E × Nat) (f : Int32) : C.2 ≤ (sv_now fs C f).2 := by
  unfold sv_now
  split
  · omega
  · exact sv_capC ..
theorem sv_now766 (fs : List sv_E) {C : List sv_E × Nat} (f : Int32) (h : C.2 ≤ 766) : (sv_now fs C f).2 ≤ 766 := by
  unfold sv_now
  split
  · omega
  · exact sv_cap766 _ h
theorem sv_cpsC (fs : List sv_E) (pg : Nat → Int32) : ∀ (k i : Nat) (C : List sv_E × Nat), C.2 ≤ (sv_cps fs pg k i C).2
  | 0, _, _ => Nat.le_refl _
  | k + 1, i, C => Nat.le_trans (sv_nowC fs C (pg i)) (sv_cpsC fs pg k (i + 1) _)
theorem sv_cps766 (fs : List sv_E) (pg : Nat → Int32) : ∀ (k i : Nat) (C : List sv_E × Nat), C.2 ≤ 766 → (sv_cps fs pg k i C).2 ≤ 766
  | 0, _, _, h => h
  | k + 1, i, C, h => sv_cps766 fs pg k (i + 1) _ (sv_now766 fs (pg i) h)
theorem sv_cntC (fs : List sv_E) (C : List sv_E × Nat) (e : sv_E) (r : Int32) : C.2 ≤ (sv_cnt fs C e r).2 := by
  unfold sv_cnt
  split
  · split
    · exact sv_capC ..
    · exact Nat.le_refl _
  · exact sv_nowC fs (sv_del C e.1) e.1
theorem sv_cnt766 (fs : List sv_E) {C : List sv_E × Nat} (e : sv_E) (r : Int32) (h : C.2 ≤ 766) : (sv_cnt fs C e r).2 ≤ 766 := by
  unfold sv_cnt
  split
  · split
    · exact sv_cap766 _ h
    · exact h
  · exact sv_now766 fs e.1 (show (sv_del C e.1).2 ≤ 766 from h)
theorem sv_actC (hd : Nat) (rg : Nat → Nat → Int32) (fs : List sv_E) (S : sv_S) : su_cap S ≤ su_cap (sv_act hd rg fs S).2 := by
  unfold sv_act
  split
  · exact sv_cpsC fs (su_pg (sv_page fs S)) 4 0 ((su_cp S).filter (sv_out (su_gr S) (if su_ls (sv_page fs S) = true then su_gr (sv_page fs S) else 2147483647)), su_cap S)
  · split
    · exact Nat.le_refl _
    · split
      · exact sv_cntC fs (su_cp S, su_cap S) _ _
      · exact Nat.le_refl _
theorem sv_act766 (hd : Nat) (rg : Nat → Nat → Int32) (fs : List sv_E) {S : sv_S} (h : su_cap S ≤ 766) : su_cap (sv_act hd rg fs S).2 ≤ 766 := by
  unfold sv_act
  split
  · exact sv_cps766 fs _ 4 0 _ h
  · split
    · exact h
    · split
      · exact sv_cnt766 fs (C := (su_cp S, su_cap S)) _ _ h
      · exact h
abbrev su_c (t p cur : Nat) (mask : Int32) (ls : Bool) (gr : Int32) : xa_E := .inr (7, [.ref t, .ref p, .int (nI cur), .int mask, .int (if ls = true then 1 else 0), .int gr])
abbrev pg_c (f : Nat → Int32) : xa_E := .inl (0, (4, .inl f))
/-- a subscriber at o, its copy's table at t, list at a, array at ea; the page at p -/
def su_at (G : xa_G) (h : xa_H) (o t a ea p : Nat) (S : sv_S) : Prop := h o = some (su_c t p (su_cur S) (su_mask S) (su_ls S) (su_gr S)) ∧ (∃ xs, ft_at G h t a ea (su_cap S) (nI 512) xs (su_cp S)) ∧ h p = some (pg_c (su_pg S)) ∧ G.2.2.1 ≤ o ∧ G.2.2.1 ≤ p
abbrev ft_k (a ea cap : Nat) : Nat → xa_E → Prop := fun b _ => b ≠ a ∧ (b ≠ ea ∨ cap = 0)
theorem ft_k_step {h h1 h2 : xa_H} {sz a ea cap ea1 cap1 : Nat} (hd : xd_h h sz) (H1 : xk h h1 (ft_k a ea cap)) (he : er sz ea cap ea1 cap1) (H2 : xk h1 h2 (ft_k a ea1 cap1)) : xk h h2 (ft_k a ea cap) := by
  intro b e hb hp
  refine H2 b e (H1 b e hb hp) ⟨hp.1, ?_⟩
  rcases he with ⟨rfl, rfl⟩ | q
  · exact hp.2
  · have := hd _ _ hb
    exact Or.inl (by omega)
section SB
variable {G : xa_G} {h : xa_H} {sz : Nat}
theorem ct_S_init {a : Nat} {f : Nat → Option Nat} (ha : h a = some (.inr (7, [.null, .null, .int 0, .int 0, .int 0, .int 0]))) (hB : G.2.2.1 ≤ a) (hu : h G.2.2.2.1 = some (xr_q 3 0 f)) : xa_T G mm_S_init 5 3 9 [.ref a] h sz (fun o h' z => o = .returned none ∧ z = sz + 3 ∧ su_at G h' a sz (sz + 1) G.2.2.2.1 (sz + 2) ([], 0, (fun i => if i < 4 then -1 else 0), 1, 127, false, 0) ∧ ∀ b, b ≠ a → b < sz → h' b = h b) := by
  refine xt_o ok_S_init rfl rfl ?_
  refine xw_dom (fun hd hBz => ?_)
  have hla := hd _ _ ha
  have hlu := hd _ _ hu
  refine xw_aloadR_n dd_S_init_0 rfl ?_
  refine xw_objInit ol_S_3 wo_in wo_co (by decide) (by decide) dd_S_init_1 ?_
  refine xw_aloadR_n dd_S_init_4 rfl ?_
  refine xw_less (kc' := 2 + 1) (ks' := 7 + 2) (by decide) (by decide) ?_
  refine xw_newA nw_S_9 dd_S_init_5 (fun h1 n1 f1 => ?_)
  refine xw_dup dd_S_init_8 rfl ?_
  refine xw_sipush 512 dd_S_init_9 (by decide) ?_
  refine xw_less (kc' := 1 + 1) (ks' := 4 + 3) (by decide) (by decide) ?_
  refine xw_cl (ct_F_init n1 hBz ((f1 _ (by omega)).trans hu)) iv_S_init_12 ok_F_init rfl rfl rfl ?_ (fun _ _ _ q => by cases q.1)
  rintro v h2 z1 ⟨hv, rfl, q1, q2⟩
  cases hv
  have hua : a ≠ G.2.2.2.1 := fun e => by
    rw [← e, ha] at hu
    cases hu
  refine xw_putA fl_S_14 fz_S_14 (by decide) dd_S_init_15 ((q2 a (by omega) (by omega)).trans ((f1 a (by omega)).trans ha)) rfl hB rfl rfl (fun h3 n3 f3 => ?_)
  refine xw_aloadR_n dd_S_init_18 rfl ?_
  refine xw_iconst 4 dd_S_init_19 (by decide) ?_
  refine xw_less (kc' := 0 + 1) (ks' := 0 + 4) (by decide) (by decide) ?_
  refine xw_inewA (N := 4) dd_S_init_20 (by decide) (by decide) (by decide) (fun h4 n4 f4 => ?_)
  refine xw_dup dd_S_init_22 rfl ?_
  refine xw_iconst 0 dd_S_init_23 (by decide) ?_
  refine xw_iconst (-1) dd_S_init_24 (by decide) ?_
  refine xw_iastA dd_S_init_25 n4 (vp_in_nI (n := 0) (by decide) (by decide)) (by omega) (fun h5 n5 f5 => ?_)
  refine xw_dup dd_S_init_26 rfl ?_
  refine xw_iconst 1 dd_S_init_27 (by decide) ?_
  refine xw_iconst (-1) dd_S_init_28 (by decide) ?_
  refine xw_iastA dd_S_init_29 n5 (vp_in_nI (n := 1) (by decide) (by decide)) (by omega) (fun h6 n6 f6 => ?_)
  refine xw_dup dd_S_init_30 rfl ?_
  refine xw_iconst 2 dd_S_init_31 (by decide) ?_
  refine xw_iconst (-1) dd_S_init_32 (by decide) ?_
  refine xw_iastA dd_S_init_33 n6 (vp_in_nI (n := 2) (by decide) (by decide)) (by omega) (fun h7 n7 f7 => ?_)
  refine xw_dup dd_S_init_34 rfl ?_
  refine xw_iconst 3 dd_S_init_35 (by decide) ?_
  refine xw_iconst (-1) dd_S_init_36 (by decide) ?_
  refine xw_iastA dd_S_init_37 n7 (vp_in_nI (n := 3) (by decide) (by decide)) (by omega) (fun h8 n8 f8 => ?_)
  have g8 : ∀ b, b ≠ sz + 2 → h8 b = h3 b := fun b hb => (f8 b hb).trans ((f7 b hb).trans ((f6 b hb).trans ((f5 b hb).trans (f4 b hb))))
  refine xw_putA fl_S_20 fz_S_20 (by decide) dd_S_init_38 ((g8 a (by omega)).trans n3) rfl hB rfl rfl (fun h9 n9 f9 => ?_)
  refine xw_aloadR_n dd_S_init_41 rfl ?_
  refine xw_iconst 1 dd_S_init_42 (by decide) ?_
  refine xw_putA fl_S_24 fz_S_24 (by decide) dd_S_init_43 n9 rfl hB rfl rfl (fun h10 n10 f10 => ?_)
  refine xw_aloadR_n dd_S_init_46 rfl ?_
  refine xw_bipush 127 dd_S_init_47 (by decide) ?_
  refine xw_putA fl_S_28 fz_S_28 (by decide) dd_S_init_49 n10 rfl hB rfl rfl (fun h11 n11 f11 => ?_)
  have g11 : ∀ b, b ≠ a → h11 b = h8 b := fun b hb => (f11 b hb).trans ((f10 b hb).trans (f9 b hb))
  have q1' : ft_at G h11 sz (sz + 1) G.2.2.2.1 0 512 [] [] := by
    obtain ⟨w0, ⟨w1, w2, g, ⟨⟨mc, w3⟩, w4, w5, w6⟩, w7⟩, -⟩ := q1
    have w3' := (g11 (sz + 1) (by omega)).trans ((g8 (sz + 1) (by omega)).trans ((f3 (sz + 1) (by omega)).trans w3))
    have w4' := (g11 G.2.2.2.1 (fun q => hua q.symm)).trans ((g8 G.2.2.2.1 (by omega)).trans ((f3 G.2.2.2.1 (fun q => hua q.symm)).trans w4))
    exact ⟨(g11 sz (by omega)).trans ((g8 sz (by omega)).trans ((f3 sz (by omega)).trans w0)), ⟨w1, w2, g, ⟨⟨mc, w3'⟩, w4', w5, w6⟩, w7⟩, rfl⟩
  refine xw_vret dd_S_init_52 rfl ⟨rfl, rfl, ⟨n11, ⟨[], q1'⟩, ?_, hB, by omega⟩, fun b b1 b2 => ?_⟩
  · rw [g11 (sz + 2) (by omega), n8]
    refine congrArg (fun f => some (pg_c f)) (funext (fun i => ?_))
    show upd (upd (upd (upd (fun _ => 0) 0 (-1)) 1 (-1)) 2 (-1)) 3 (-1) i = if i < 4 then -1 else 0
    unfold upd
    by_cases e3 : i = 3
    · subst e3; rfl
    by_cases e2 : i = 2
    · subst e2; rfl
    by_cases e1 : i = 1
    · subst e1; rfl
    by_cases e0 : i = 0
    · subst e0; rfl
    rw [if_neg e3, if_neg e2, if_neg e1, if_neg e0, if_neg (by omega)]
  · exact (g11 b b1).trans ((g8 b (by omega)).trans ((f3 b b1).trans ((q2 b (by omega) (by omega)).trans (f1 b (by omega)))))
theorem ct_S_beginAnew {o t a ea p r c hd : Nat} {S : sv_S} {f : Nat → Option Nat} {mask : Int32} (H : su_at G h o t a ea p S) (hR : rg_at h r c hd f) : xa_T G mm_S_beginAnew 1 0 0 [.ref o, .int mask, .ref r] h sz (fun o' h' z => o' = .returned none ∧ z = sz ∧ su_at G h' o t a ea p (sv_sub hd mask S) ∧ ∀ b, b ≠ o → b ≠ p → h' b = h b) := by
  obtain ⟨hO, ⟨xs, hF⟩, hP, hBo, hBp⟩ := H
  have hop : o ≠ p := xt_ne hO hP (by simp [xt])
  have hkp : ∀ h' : xa_H, (∀ b, b ≠ o → b ≠ p → h' b = h b) → ft_at G h' t a ea (su_cap S) (nI 512) xs (su_cp S) := fun h' hk => hF.kp (fun b e hb hc => by
    have e7 : xt e ≠ 7 ∧ xt e ≠ 100 := by rcases hc with ⟨-, q⟩ | ⟨-, q⟩ | ⟨-, q⟩ | q <;> omega
    rw [hk b (xt_ne hb hO (by simp [xt] at *; omega)) (xt_ne hb hP (by simp [xt] at *; omega))]
    exact hb)
  have loop : ∀ (k i : Nat) (h1 : xa_H) (pg : Nat → Int32), i + k = 4 → h1 o = some (su_c t p hd mask false (su_gr S)) → h1 p = some (pg_c pg) → (∀ j, pg j = if j < i then -1 else su_pg S j) → (∀ b, b ≠ o → b ≠ p → h1 b = h b) → xa_W G mm_S_beginAnew 1 0 0 20 [some (.ref o), some (.int mask), some (.ref r), some (.int (nI i))] [] h1 sz (fun o' h' z => o' = .returned none ∧ z = sz ∧ su_at G h' o t a ea p (sv_sub hd mask S) ∧ ∀ b, b ≠ o → b ≠ p → h' b = h b) := by
    intro k
    induction k with
    | zero =>
      intro i h1 pg hk k1 k2 k3 k4
      have : i = 4 := by omega
      subst this
      refine xw_iload_n dd_S_beginAnew_20 rfl ?_
      refine xw_iconst 4 dd_S_beginAnew_21 (by decide) ?_
      refine xw_icmp_ge 38 dd_S_beginAnew_22 (by decide) (fun hc => ?_) (fun hc => absurd (by decide) hc)
      refine xw_vret dd_S_beginAnew_38 rfl ⟨rfl, rfl, ⟨k1, ⟨xs, hkp h1 k4⟩, ?_, hBo, hBp⟩, k4⟩
      rw [k2]
      exact congrArg (fun f => some (pg_c f)) (funext k3)
    | succ k ih =>
      intro i h1 pg hk k1 k2 k3 k4
      refine xw_iload_n dd_S_beginAnew_20 rfl ?_
      refine xw_iconst 4 dd_S_beginAnew_21 (by decide) ?_
      refine xw_icmp_ge 38 dd_S_beginAnew_22 (by decide) (fun hc => absurd hc (nI_ge (a := i) (b := 4) (by omega) (by decide))) (fun hc => ?_)
      refine xw_aloadR_n dd_S_beginAnew_25 rfl ?_
      refine xw_get fl_S_20 dd_S_beginAnew_26 k1 rfl ?_
      refine xw_iload_n dd_S_beginAnew_29 rfl ?_
      refine xw_iconst (-1) dd_S_beginAnew_30 (by decide) ?_
      refine xw_iastA dd_S_beginAnew_31 k2 (vp_in_nI (by omega) (by decide)) hBp (fun h5 n5 f5 => ?_)
      rw [nI_clamp (by omega)] at n5
      refine xw_iinc dd_S_beginAnew_32 rfl (nI_1 i) (by decide) ?_
      refine xw_goto 20 dd_S_beginAnew_35 (by decide) ?_
      refine ih (i + 1) h5 _ (by omega) ((f5 o hop).trans k1) n5 (fun j => ?_) (fun b b1 b2 => (f5 b b2).trans (k4 b b1 b2))
      by_cases e : j = i
      · subst e
        rw [pk_us, if_pos (by omega)]
      · rw [pk_un e, k3]
        by_cases e2 : j < i
        · rw [if_pos e2, if_pos (by omega)]
        · rw [if_neg e2, if_neg (by omega)]
  refine xt_o ok_S_beginAnew rfl rfl ?_
  refine xw_aloadR_n dd_S_beginAnew_0 rfl ?_
  refine xw_iload_n dd_S_beginAnew_1 rfl ?_
  refine xw_putA fl_S_28 fz_S_28 (by decide) dd_S_beginAnew_2 hO rfl hBo rfl rfl (fun h1 n1 f1 => ?_)
  refine xw_aloadR_n dd_S_beginAnew_5 rfl ?_
  refine xw_aloadR_n dd_S_beginAnew_6 rfl ?_
  have hro : r ≠ o := xt_ne hR.1 hO (by simp [xt])
  have hco : c ≠ o := xt_ne hR.2.1 hO (by simp [xt])
  have hR1 : rg_at h1 r c hd f := ⟨(f1 r hro).trans hR.1, (f1 c hco).trans hR.2.1, hR.2.2⟩
  refine xw_cl0 (ct_R_nextSerial hR1) (iv_S_beginAnew_7 hR1.1) ok_R_nextSerial rfl rfl rfl ?_ (fun _ _ _ q => by cases q.1)
  rintro v h1 z1 ⟨hv, rfl, rfl⟩
  cases hv
  refine xw_putA fl_S_24 fz_S_24 (by decide) dd_S_beginAnew_10 n1 rfl hBo rfl rfl (fun h2 n2 f2 => ?_)
  refine xw_aloadR_n dd_S_beginAnew_13 rfl ?_
  refine xw_iconst 0 dd_S_beginAnew_14 (by decide) ?_
  refine xw_putA fl_S_37 fz_S_37 (by decide) dd_S_beginAnew_15 n2 rfl hBo rfl rfl (fun h3 n3 f3 => ?_)
  refine xw_iconst 0 dd_S_beginAnew_18 (by decide) ?_
  refine xw_istore_n dd_S_beginAnew_19 (by decide) ?_
  exact loop 4 0 h3 (su_pg S) rfl n3 ((f3 p (fun q => hop q.symm)).trans ((f2 p (fun q => hop q.symm)).trans ((f1 p (fun q => hop q.symm)).trans hP))) (fun j => by rw [if_neg (by omega)]) (fun b b1 _ => (f3 b b1).trans ((f2 b b1).trans (f1 b b1)))
theorem ct_S_beginListing {o t a ea p r c hd : Nat} {S : sv_S} {f : Nat → Option Nat} (H : su_at G h o t a ea p S) (hR : rg_at h r c hd f) : xa_T G mm_S_beginListing 1 0 0 [.ref o, .ref r] h sz (fun o' h' z => o' = .returned none ∧ z = sz ∧ su_at G h' o t a ea p (sv_lst hd S) ∧ ∀ b, b ≠ o → h' b = h b) := by
  obtain ⟨hO, ⟨xs, hF⟩, hP, hBo, hBp⟩ := H
  have hop : o ≠ p := xt_ne hO hP (by simp [xt])
  refine xt_o ok_S_beginListing rfl rfl ?_
  refine xw_aloadR_n dd_S_beginListing_0 rfl ?_
  refine xw_iconst 1 dd_S_beginListing_1 (by decide) ?_
  refine xw_putA fl_S_37 fz_S_37 (by decide) dd_S_beginListing_2 hO rfl hBo rfl rfl (fun h1 n1 f1 => ?_)
  refine xw_aloadR_n dd_S_beginListing_5 rfl ?_
  refine xw_iconst 0 dd_S_beginListing_6 (by decide) ?_
  refine xw_putA fl_S_54 fz_S_54 (by decide) dd_S_beginListing_7 n1 rfl hBo rfl rfl (fun h2 n2 f2 => ?_)
  refine xw_aloadR_n dd_S_beginListing_10 rfl ?_
  refine xw_aloadR_n dd_S_beginListing_11 rfl ?_
  have hro : r ≠ o := xt_ne hR.1 hO (by simp [xt])
  have hco : c ≠ o := xt_ne hR.2.1 hO (by simp [xt])
  have hR1 : rg_at h2 r c hd f := ⟨(f2 r hro).trans ((f1 r hro).trans hR.1), (f2 c hco).trans ((f1 c hco).trans hR.2.1), hR.2.2⟩
  refine xw_cl0 (ct_R_nextSerial hR1) (iv_S_beginListing_12 hR1.1) ok_R_nextSerial rfl rfl rfl ?_ (fun _ _ _ q => by cases q.1)
  rintro v h2 z1 ⟨hv, rfl, rfl⟩
  cases hv
  refine xw_putA fl_S_24 fz_S_24 (by decide) dd_S_beginListing_15 n2 rfl hBo rfl rfl (fun h3 n3 f3 => ?_)
  have g3 : ∀ b, b ≠ o → h3 b = h b := fun b b1 => (f3 b b1).trans ((f2 b b1).trans (f1 b b1))
  refine xw_vret dd_S_beginListing_18 rfl ⟨rfl, rfl, ⟨n3, ⟨xs, hF.kp (fun b e hb hc => ?_)⟩, (g3 p (fun q => hop q.symm)).trans hP, hBo, hBp⟩, g3⟩
  have e7 : xt e ≠ 7 := by rcases hc with ⟨-, q⟩ | ⟨-, q⟩ | ⟨-, q⟩ | q <;> omega
  rw [g3 b (xt_ne hb hO e7)]
  exact hb
theorem ct_S_takeNote {o t p r c hd cur : Nat} {mk gr : Int32} {ls : Bool} {f : Nat → Option Nat} {rg : Nat → Nat → Int32} {mask : Int32} (hO : h o = some (su_c t p cur mk ls gr)) (hBo : G.2.2.1 ≤ o) (hcur : cur ≤ hd) (hR : rg_at h r c hd f) (hN : rn_at h f hd rg) : xa_T G mm_S_takeNote 2 0 0 [.ref o, .ref r, .int mask] h sz (fun o' h' z => o' = .returned (some (.int (sv_read hd rg cur mask).1)) ∧ z = sz ∧ h' o = some (su_c t p (sv_read hd rg cur mask).2 mk ls gr) ∧ ∀ b, b ≠ o → h' b = h b) := by
  have hlim := hR.2.2
  have htl : rg_tl hd ≤ hd := by
    unfold rg_tl
    split <;> omega
  have loop : ∀ (k s : Nat) (ov : Option Value), s + k = hd → rg_tl hd ≤ s → ¬ cur < rg_tl hd → sv_scan rg mask k s = sv_scan rg mask (hd - cur) cur → xa_W G mm_S_takeNote 2 0 0 18 [some (.ref o), some (.ref r), some (.int mask), some (.int (nI s)), ov] [] h sz (fun o' h' z => o' = .returned (some (.int (sv_read hd rg cur mask).1)) ∧ z = sz ∧ h' o = some (su_c t p (sv_read hd rg cur mask).2 mk ls gr) ∧ ∀ b, b ≠ o → h' b = h b) := by
    intro k
    induction k with
    | zero =>
      intro s ov hk hs h0 hq
      have hrd : sv_read hd rg cur mask = (0, hd) := by
        unfold sv_read
        rw [if_neg h0, ← hq]
        rfl
      refine xw_iload_n dd_S_takeNote_18 rfl ?_
      refine xw_aloadR_n dd_S_takeNote_19 rfl ?_
      refine xw_cl0 (ct_R_nextSerial hR) (iv_S_takeNote_20 hR.1) ok_R_nextSerial rfl rfl rfl ?_ (fun _ _ _ q => by cases q.1)
      rintro v h1 z1 ⟨hv, rfl, rfl⟩
      cases hv
      refine xw_icmp_ge 62 dd_S_takeNote_23 (by decide) (fun hc => ?_) (fun hc => absurd (nI_le (by omega) (by omega)) hc)
      refine xw_aloadR_n dd_S_takeNote_62 rfl ?_
      refine xw_aloadR_n dd_S_takeNote_63 rfl ?_
      refine xw_cl0 (ct_R_nextSerial hR) (iv_S_takeNote_64 hR.1) ok_R_nextSerial rfl rfl rfl ?_ (fun _ _ _ q => by cases q.1)
      rintro v h1 z1 ⟨hv, rfl, rfl⟩
      cases hv
      refine xw_putA fl_S_24 fz_S_24 (by decide) dd_S_takeNote_67 hO rfl hBo rfl rfl (fun h2 n2 f2 => ?_)
      refine xw_iconst 0 dd_S_takeNote_70 (by decide) ?_
      exact xw_iret dd_S_takeNote_71 rfl ⟨by rw [hrd], rfl, by rw [hrd]; exact n2, f2⟩
    | succ k ih =>
      intro s ov hk hs h0 hq
      obtain ⟨y, ey, e, rr, w1, w2, w3, w4⟩ := hN s hs (by omega)
      refine xw_iload_n dd_S_takeNote_18 rfl ?_
      refine xw_aloadR_n dd_S_takeNote_19 rfl ?_
      refine xw_cl0 (ct_R_nextSerial hR) (iv_S_takeNote_20 hR.1) ok_R_nextSerial rfl rfl rfl ?_ (fun _ _ _ q => by cases q.1)
      rintro v h1 z1 ⟨hv, rfl, rfl⟩
      cases hv
      refine xw_icmp_ge 62 dd_S_takeNote_23 (by decide) (fun hc => absurd hc (nI_ge (by omega) (by omega))) (fun hc => ?_)
      refine xw_aloadR_n dd_S_takeNote_26 rfl ?_
      refine xw_iload_n dd_S_takeNote_27 rfl ?_
      refine xw_cl0 (ct_R_noteAt hR) (iv_S_takeNote_28 hR.1) ok_R_noteAt rfl rfl rfl ?_ (fun _ _ _ q => by cases q.1)
      rintro v h1 z1 ⟨hv, rfl, rfl⟩
      cases hv
      rw [if_pos ⟨nI_le hs (by omega), nI_lt (by omega) (by omega)⟩, nI_clamp (by omega), w1]
      refine xw_astore (r := some y) dd_S_takeNote_31 (by decide) ?_
      refine xw_aloadR dd_S_takeNote_33 rfl ?_
      refine xw_ifnullR dd_S_takeNote_35 ?_
      refine xw_aloadR dd_S_takeNote_38 rfl ?_
      refine xw_iload_n dd_S_takeNote_40 rfl ?_
      refine xw_cl0 (ct_N_hasAny w2) (iv_S_takeNote_41 w2) ok_N_hasAny rfl rfl rfl ?_ (fun _ _ _ q => by cases q.1)
      rintro v h1 z1 ⟨hv, rfl, rfl⟩
      cases hv
      have e5 : rg (s % 16) 5 = rr := by rw [w4]; rfl
      by_cases hz : rr &&& mask = 0
      · rw [if_pos hz]
        refine xw_if_eq 56 dd_S_takeNote_44 (by decide) (fun hc => ?_) (fun hc => absurd rfl hc)
        refine xw_iinc dd_S_takeNote_56 rfl (nI_1 s) (by decide) ?_
        refine xw_goto 18 dd_S_takeNote_59 (by decide) ?_
        refine ih (s + 1) _ (by omega) (by omega) h0 ?_
        rw [← hq, sv_scan, e5, if_pos hz]
      · rw [if_neg hz]
        refine xw_if_eq 56 dd_S_takeNote_44 (by decide) (fun hc => absurd hc (by decide)) (fun hc => ?_)
        have hrd : sv_read hd rg cur mask = (nI s, s + 1) := by
          unfold sv_read
          rw [if_neg h0, ← hq, sv_scan, e5, if_neg hz]
        refine xw_aloadR_n dd_S_takeNote_47 rfl ?_
        refine xw_iload_n dd_S_takeNote_48 rfl ?_
        refine xw_iconst 1 dd_S_takeNote_49 (by decide) ?_
        refine xw_iadd dd_S_takeNote_50 ?_
        rw [nI_1]
        refine xw_putA fl_S_24 fz_S_24 (by decide) dd_S_takeNote_51 hO rfl hBo rfl rfl (fun h2 n2 f2 => ?_)
        refine xw_iload_n dd_S_takeNote_54 rfl ?_
        exact xw_iret dd_S_takeNote_55 rfl ⟨by rw [hrd], rfl, by rw [hrd]; exact n2, f2⟩
  refine xt_o ok_S_takeNote rfl rfl ?_
  refine xw_aloadR_n dd_S_takeNote_0 rfl ?_
  refine xw_get fl_S_24 dd_S_takeNote_1 hO rfl ?_
  refine xw_aloadR_n dd_S_takeNote_4 rfl ?_
  refine xw_cl0 (ct_R_leastKept hR) (iv_S_takeNote_5 hR.1) ok_R_leastKept rfl rfl rfl ?_ (fun _ _ _ q => by cases q.1)
  rintro v h1 z1 ⟨hv, rfl, rfl⟩
  cases hv
  refine xw_icmp_ge 13 dd_S_takeNote_8 (by decide) (fun hc => ?_) (fun hc => ?_)
  · have hle : rg_tl hd ≤ cur := (nI_leI (by omega) (by omega)).mp hc
    refine xw_aloadR_n dd_S_takeNote_13 rfl ?_
    refine xw_get fl_S_24 dd_S_takeNote_14 hO rfl ?_
    refine xw_istore_n dd_S_takeNote_17 (by decide) ?_
    exact loop (hd - cur) cur _ (by omega) hle (by omega) rfl
  · have hlt : cur < rg_tl hd := by
      by_cases q : rg_tl hd ≤ cur
      · exact absurd (nI_le q (by omega)) hc
      · omega
    have hrd : sv_read hd rg cur mask = (-1, cur) := by
      unfold sv_read
      rw [if_pos hlt]
    refine xw_iconst (-1) dd_S_takeNote_11 (by decide) ?_
    exact xw_iret dd_S_takeNote_12 rfl ⟨by rw [hrd], rfl, by rw [hrd]; exact hO, fun _ _ => rfl⟩
theorem sv_pgsn (fs : List sv_E) : ∀ (k i : Nat) (pg : Nat → Int32) (g : Int32) (n : Nat), (sv_pgs fs k i pg g n).2.2 ≤ n + k
  | 0, _, _, _, _ => Nat.le_refl _
  | k + 1, i, pg, g, n => by
    unfold sv_pgs
    split
    · have := sv_pgsn fs k (i + 1) (upd pg i (-1)) g n
      omega
    · rename_i e _
      have := sv_pgsn fs k (i + 1) (upd pg i e.1) e.1 (n + 1)
      omega
theorem ct_S_showPage {o t p cur ft fa fea fcap : Nat} {mk gr most : Int32} {ls : Bool} {pg : Nat → Int32} {ys : List Nat} {fs : List sv_E} (hO : h o = some (su_c t p cur mk ls gr)) (hP : h p = some (pg_c pg)) (hBo : G.2.2.1 ≤ o) (hBp : G.2.2.1 ≤ p) (hF : ft_at G h ft fa fea fcap most ys fs) : xa_T G mm_S_showPage 4 0 0 [.ref o, .ref ft] h sz (fun o' h' z => o' = .returned (some (.int (nI (sv_pgs fs 4 0 pg gr 0).2.2))) ∧ z = sz ∧ h' o = some (su_c t p cur mk (decide ((sv_pgs fs 4 0 pg gr 0).2.2 = 4)) (sv_pgs fs 4 0 pg gr 0).2.1) ∧ h' p = some (pg_c (sv_pgs fs 4 0 pg gr 0).1) ∧ ∀ b, b ≠ o → b ≠ p → h' b = h b) := by
  have hop : o ≠ p := xt_ne hO hP (by simp [xt])
  have hkp : ∀ h' : xa_H, (∀ b, b ≠ o → b ≠ p → h' b = h b) → ft_at G h' ft fa fea fcap most ys fs := fun h' hk => hF.kp (fun b e hb hc => by
    have e7 : xt e ≠ 7 ∧ xt e ≠ 100 := by rcases hc with ⟨-, q⟩ | ⟨-, q⟩ | ⟨-, q⟩ | q <;> omega
    rw [hk b (xt_ne hb hO (by simp [xt] at *; omega)) (xt_ne hb hP (by simp [xt] at *; omega))]
    exact hb)
  have loop : ∀ (k i : Nat) (h1 : xa_H) (pg1 : Nat → Int32) (g1 : Int32) (n1 : Nat) (ov : Option Value), i + k = 4 → n1 ≤ i → h1 o = some (su_c t p cur mk ls g1) → h1 p = some (pg_c pg1) → sv_pgs fs k i pg1 g1 n1 = sv_pgs fs 4 0 pg gr 0 → (∀ b, b ≠ o → b ≠ p → h1 b = h b) → xa_W G mm_S_showPage 4 0 0 4 [some (.ref o), some (.ref ft), some (.int (nI n1)), some (.int (nI i)), ov] [] h1 sz (fun o' h' z => o' = .returned (some (.int (nI (sv_pgs fs 4 0 pg gr 0).2.2))) ∧ z = sz ∧ h' o = some (su_c t p cur mk (decide ((sv_pgs fs 4 0 pg gr 0).2.2 = 4)) (sv_pgs fs 4 0 pg gr 0).2.1) ∧ h' p = some (pg_c (sv_pgs fs 4 0 pg gr 0).1) ∧ ∀ b, b ≠ o → b ≠ p → h' b = h b) := by
    intro k
    induction k with
    | zero =>
      intro i h1 pg1 g1 n1 ov hk hn1 k1 k2 k3 k4
      have : i = 4 := by omega
      subst this
      rw [← k3]
      refine xw_iload_n dd_S_showPage_4 rfl ?_
      refine xw_iconst 4 dd_S_showPage_5 (by decide) ?_
      refine xw_icmp_ge 63 dd_S_showPage_6 (by decide) (fun hc => ?_) (fun hc => absurd (by decide) hc)
      refine xw_aloadR_n dd_S_showPage_63 rfl ?_
      refine xw_iload_n dd_S_showPage_64 rfl ?_
      refine xw_iconst 4 dd_S_showPage_65 (by decide) ?_
      refine xw_icmp_ne 73 dd_S_showPage_66 (by decide) (fun hc2 => ?_) (fun hc2 => ?_)
      · have hn : n1 ≠ 4 := fun q => hc2 (by rw [q]; rfl)
        refine xw_iconst 0 dd_S_showPage_73 (by decide) ?_
        refine xw_putA fl_S_37 fz_S_37 (by decide) dd_S_showPage_74 k1 rfl hBo rfl rfl (fun h2 n2 f2 => ?_)
        refine xw_iload_n dd_S_showPage_77 rfl ?_
        refine xw_iret dd_S_showPage_78 rfl ⟨rfl, rfl, ?_, (f2 p (fun q => hop q.symm)).trans k2, fun b b1 b2 => (f2 b b1).trans (k4 b b1 b2)⟩
        have e0 : decide ((sv_pgs fs 0 4 pg1 g1 n1).2.2 = 4) = false := decide_eq_false hn
        rw [e0]
        exact n2
      · have hn : n1 = 4 := by
          have := (nI_eq (a := n1) (b := 4) (by omega) (by decide)).mp hc2
          omega
        refine xw_iconst 1 dd_S_showPage_69 (by decide) ?_
        refine xw_goto 74 dd_S_showPage_70 (by decide) ?_
        refine xw_putA fl_S_37 fz_S_37 (by decide) dd_S_showPage_74 k1 rfl hBo rfl rfl (fun h2 n2 f2 => ?_)
        refine xw_iload_n dd_S_showPage_77 rfl ?_
        refine xw_iret dd_S_showPage_78 rfl ⟨rfl, rfl, ?_, (f2 p (fun q => hop q.symm)).trans k2, fun b b1 b2 => (f2 b b1).trans (k4 b b1 b2)⟩
        have e0 : decide ((sv_pgs fs 0 4 pg1 g1 n1).2.2 = 4) = true := decide_eq_true hn
        rw [e0]
        exact n2
    | succ k ih =>
      intro i h1 pg1 g1 n1 ov hk hn1 k1 k2 k3 k4
      have hF1 := hkp h1 k4
      refine xw_iload_n dd_S_showPage_4 rfl ?_
      refine xw_iconst 4 dd_S_showPage_5 (by decide) ?_
      refine xw_icmp_ge 63 dd_S_showPage_6 (by decide) (fun hc => absurd hc (nI_ge (a := i) (b := 4) (by omega) (by decide))) (fun hc => ?_)
      refine xw_aloadR_n dd_S_showPage_9 rfl ?_
      refine xw_aloadR_n dd_S_showPage_10 rfl ?_
      refine xw_get fl_S_54 dd_S_showPage_11 k1 rfl ?_
      refine xw_cl0 (ct_F_entryAbove hF1) (iv_S_showPage_14 hF1.1) ok_F_entryAbove rfl rfl rfl ?_ (fun _ _ _ q => by cases q.2.2.choose_spec.1)
      rintro v h1 sz ⟨rfl, rfl, r, hv, hr⟩
      cases hv
      rw [sv_pgs] at k3
      rcases hr with ⟨w1, rfl⟩ | ⟨e, y, w1, rfl, w3⟩
      · rw [w1] at k3
        refine xw_astore (r := none) dd_S_showPage_17 (by decide) ?_
        refine xw_aload (r := none) dd_S_showPage_19 rfl ?_
        refine xw_ifnonnullN dd_S_showPage_21 ?_
        refine xw_aloadR_n dd_S_showPage_24 rfl ?_
        refine xw_get fl_S_20 dd_S_showPage_25 k1 rfl ?_
        refine xw_iload_n dd_S_showPage_28 rfl ?_
        refine xw_iconst (-1) dd_S_showPage_29 (by decide) ?_
        refine xw_iastA dd_S_showPage_30 k2 (vp_in_nI (by omega) (by decide)) hBp (fun h5 n5 f5 => ?_)
        rw [nI_clamp (by omega)] at n5
        refine xw_goto 57 dd_S_showPage_31 (by decide) ?_
        refine xw_iinc dd_S_showPage_57 rfl (nI_1 i) (by decide) ?_
        refine xw_goto 4 dd_S_showPage_60 (by decide) ?_
        exact ih (i + 1) h5 _ g1 n1 _ (by omega) (by omega) ((f5 o hop).trans k1) n5 k3 (fun b b1 b2 => (f5 b b2).trans (k4 b b1 b2))
      · rw [w1] at k3
        refine xw_astore (r := some y) dd_S_showPage_17 (by decide) ?_
        refine xw_aloadR dd_S_showPage_19 rfl ?_
        refine xw_ifnonnullR 34 dd_S_showPage_21 (by decide) ?_
        refine xw_aloadR_n dd_S_showPage_34 rfl ?_
        refine xw_get fl_S_20 dd_S_showPage_35 k1 rfl ?_
        refine xw_iload_n dd_S_showPage_38 rfl ?_
        refine xw_aloadR dd_S_showPage_39 rfl ?_
        refine xw_get fl_S_61 dd_S_showPage_41 w3 rfl ?_
        refine xw_iastA dd_S_showPage_44 k2 (vp_in_nI (by omega) (by decide)) hBp (fun h5 n5 f5 => ?_)
        rw [nI_clamp (by omega)] at n5
        have hyp : y ≠ p := xt_ne w3 k2 (by simp [xt])
        have hyo : y ≠ o := xt_ne w3 k1 (by simp [xt])
        refine xw_aloadR_n dd_S_showPage_45 rfl ?_
        refine xw_aloadR dd_S_showPage_46 rfl ?_
        refine xw_get fl_S_61 dd_S_showPage_48 ((f5 y hyp).trans w3) rfl ?_
        refine xw_putA fl_S_54 fz_S_54 (by decide) dd_S_showPage_51 ((f5 o hop).trans k1) rfl hBo rfl rfl (fun h6 n6 f6 => ?_)
        refine xw_iinc dd_S_showPage_54 rfl (nI_1 n1) (by decide) ?_
        refine xw_iinc dd_S_showPage_57 rfl (nI_1 i) (by decide) ?_
        refine xw_goto 4 dd_S_showPage_60 (by decide) ?_
        exact ih (i + 1) h6 _ e.1 (n1 + 1) _ (by omega) (by omega) n6 ((f6 p (fun q => hop q.symm)).trans n5) k3 (fun b b1 b2 => (f6 b b1).trans ((f5 b b2).trans (k4 b b1 b2)))
  refine xt_o ok_S_showPage rfl rfl ?_
  refine xw_iconst 0 dd_S_showPage_0 (by decide) ?_
  refine xw_istore_n dd_S_showPage_1 (by decide) ?_
  refine xw_iconst 0 dd_S_showPage_2 (by decide) ?_
  refine xw_istore_n dd_S_showPage_3 (by decide) ?_
  exact loop 4 0 h pg gr 0 _ rfl (by omega) hO hP rfl (fun _ _ _ => rfl)
end SB
end
section
/-! Subscriber: copies (by program: wip/whole/mk24.py) -/
/-- a copy has changed from C to C' -/
def cp_q (G : xa_G) (h : xa_H) (sz t a ea : Nat) (C C' : List sv_E × Nat) : Outcome → xa_H → Nat → Prop := fun o h' z => o = .returned none ∧ (∃ ea' xs', ft_at G h' t a ea' C'.2 (nI 512) xs' C'.1 ∧ er sz ea C.2 ea' C'.2) ∧ sz ≤ z ∧ xk h h' (ft_k a ea C.2)
theorem cp_put {G : xa_G} {h h' : xa_H} {sz t a ea z : Nat} {C : List sv_E × Nat} {e : sv_E} {o : Outcome} (hd : xd_h h sz) (q : xq_fp G h sz t a ea C.2 (nI 512) (sv_put C.1 512 e) (sv_gro C.1 512 C.2 e) o h' z) : cp_q G h sz t a ea C (sv_putc C e) o h' z := by
  obtain ⟨q1, ⟨xs', q2⟩, q3, q4, q5⟩ := q
  refine ⟨q1, ⟨_, xs', q2, ?_⟩, ?_, fun b e hb hp => (q4 b hp.1 hp.2 (by have := hd _ _ hb; omega)).trans hb⟩
  · unfold sv_putc er
    simp only
    split
    · exact Or.inr (Nat.le_refl _)
    · exact Or.inl ⟨rfl, rfl⟩
  · rw [q3]
    split <;> omega
theorem cp_del {G : xa_G} {h h' : xa_H} {sz t a ea z : Nat} {C : List sv_E × Nat} {es' : List sv_E} {o : Outcome} (q : xq_fu G h sz t a ea C.2 (nI 512) es' o h' z) : cp_q G h sz t a ea C (es', C.2) o h' z := by
  obtain ⟨q1, q2, ⟨xs', q3⟩, q4⟩ := q
  exact ⟨q1, ⟨ea, xs', q3, Or.inl ⟨rfl, rfl⟩⟩, by omega, fun b e hb hp => (q4 b hp.1 hp.2).trans hb⟩
theorem cp_trans {G : xa_G} {h h1 h2 : xa_H} {sz t a ea z1 z2 ea1 : Nat} {C C1 C2 : List sv_E × Nat} {o : Outcome} (hd : xd_h h sz) (he : er sz ea C.2 ea1 C1.2) (hz : sz ≤ z1) (hk : xk h h1 (ft_k a ea C.2)) (q : cp_q G h1 z1 t a ea1 C1 C2 o h2 z2) : cp_q G h sz t a ea C C2 o h2 z2 := by
  obtain ⟨q1, ⟨ea', xs', q2, q3⟩, q4, q5⟩ := q
  exact ⟨q1, ⟨ea', xs', q2, he.trans q3 hz⟩, by omega, ft_k_step hd hk he q5⟩
/-- another table is as it was -/
theorem ft_oth {G : xa_G} {h h1 : xa_H} {sz t a ea cap t0 a0 ea0 cap0 : Nat} {most most0 : Int32} {xs ys : List Nat} {es fs : List sv_E} (H : ft_at G h t a ea cap most xs es) (HF : ft_at G h t0 a0 ea0 cap0 most0 ys fs) (ha : a0 ≠ a) (he : ea0 ≠ ea ∨ cap = 0) (hk : xk h h1 (ft_k a ea cap)) : ft_at G h1 t0 a0 ea0 cap0 most0 ys fs := by
  obtain ⟨hT, ⟨k1, k2, g, ⟨⟨mc, k3⟩, k4, k5, k6⟩, k7⟩, hE⟩ := H
  refine HF.kp (fun b e hb hc => hk b e hb ?_)
  rcases hc with ⟨rfl, q⟩ | ⟨rfl, q⟩ | ⟨rfl, q⟩ | q
  · exact ⟨xt_ne hb k3 (by rw [q]; simp [xt]), Or.inl (xt_ne hb k4 (by rw [q]; simp [xt]))⟩
  · exact ⟨ha, Or.inl (xt_ne hb k4 (by rw [q]; simp [xt]))⟩
  · exact ⟨xt_ne hb k3 (by rw [q]; simp [xt]), he⟩
  · exact ⟨xt_ne hb k3 (by rw [q]; simp [xt]), Or.inl (xt_ne hb k4 (by rw [q]; simp [xt]))⟩
theorem er_oth {sz ea cap ea1 cap1 ea0 : Nat} (he : ea0 ≠ ea ∨ cap = 0) (hl : ea0 < sz) (H : er sz ea cap ea1 cap1) : ea0 ≠ ea1 ∨ cap1 = 0 := by
  rcases H with ⟨rfl, rfl⟩ | q
  · exact he
  · exact Or.inl (by omega)
/-- a cell of another sort than a list's is as it was -/
theorem ft_ok {G : xa_G} {h h1 : xa_H} {t a ea cap b : Nat} {most : Int32} {xs : List Nat} {es : List sv_E} {e : xa_E} (H : ft_at G h t a ea cap most xs es) (hk : xk h h1 (ft_k a ea cap)) (hb : h b = some e) (h8 : xt e ≠ 8) (h3 : xt e ≠ 103) : h1 b = some e := by
  obtain ⟨hT, ⟨k1, k2, g, ⟨⟨mc, k3⟩, k4, k5, k6⟩, k7⟩, hE⟩ := H
  exact hk b e hb ⟨xt_ne hb k3 (by simp only [xt] at *; exact h8), Or.inl (xt_ne hb k4 (by simp only [xt] at *; exact h3))⟩
theorem ft_lt {G : xa_G} {h : xa_H} {sz t a ea cap : Nat} {most : Int32} {xs : List Nat} {es : List sv_E} (hd : xd_h h sz) (H : ft_at G h t a ea cap most xs es) : ea < sz := by
  obtain ⟨hT, ⟨k1, k2, g, ⟨⟨mc, k3⟩, k4, k5, k6⟩, k7⟩, hE⟩ := H
  exact hd _ _ k4
section SC
variable {G : xa_G} {h : xa_H} {sz : Nat}
theorem ct_S_copyAsItIs {o t p cur a ea ft fa fea fcap : Nat} {mk gr f most : Int32} {ls : Bool} {C : List sv_E × Nat} {xs ys : List Nat} {fs : List sv_E} (hO : h o = some (su_c t p cur mk ls gr)) (H : ft_at G h t a ea C.2 (nI 512) xs C.1) (HF : ft_at G h ft fa fea fcap most ys fs) (hcap : C.2 ≤ 766) : xa_T G mm_S_copyAsItIs 8 1 (4 * ((sv_now fs C f).2 - C.2)) [.ref o, .int f, .ref ft] h sz (cp_q G h sz t a ea C (sv_now fs C f)) := by
  refine xt_o ok_S_copyAsItIs rfl rfl ?_
  refine xw_dom (fun hd _ => ?_)
  refine xw_aloadR_n dd_S_copyAsItIs_0 rfl ?_
  refine xw_iload_n dd_S_copyAsItIs_1 rfl ?_
  refine xw_cl0 (ct_F_entryOf HF) (iv_S_copyAsItIs_2 HF.1) ok_F_entryOf rfl rfl rfl ?_ (fun _ _ _ q => by cases q.2.2.choose_spec.1)
  rintro v h sz ⟨rfl, rfl, r, hv, hr⟩
  cases hv
  rcases hr with ⟨w1, rfl⟩ | ⟨e, y, w1, rfl, w3⟩
  · have hn : sv_now fs C f = C := by
      unfold sv_now sv_find
      rw [w1]
    refine xw_astore_n (r := none) dd_S_copyAsItIs_5 (by decide) ?_
    refine xw_aload_n (r := none) dd_S_copyAsItIs_6 rfl ?_
    refine xw_ifnullN 18 dd_S_copyAsItIs_7 (by decide) ?_
    refine xw_vret dd_S_copyAsItIs_18 rfl ?_
    rw [hn]
    exact ⟨rfl, ⟨ea, xs, H, Or.inl ⟨rfl, rfl⟩⟩, Nat.le_refl _, xk.refl⟩
  · have hn : sv_now fs C f = sv_putc C e := by
      unfold sv_now sv_find
      rw [w1]
    rw [hn]
    refine xw_astore_n (r := some y) dd_S_copyAsItIs_5 (by decide) ?_
    refine xw_aloadR_n dd_S_copyAsItIs_6 rfl ?_
    refine xw_ifnullR dd_S_copyAsItIs_7 ?_
    refine xw_aloadR_n dd_S_copyAsItIs_10 rfl ?_
    refine xw_get fl_S_14 dd_S_copyAsItIs_11 hO rfl ?_
    refine xw_aloadR_n dd_S_copyAsItIs_14 rfl ?_
    refine xw_less (kc' := 0 + 1) (ks' := 0 + (if sv_gro C.1 512 C.2 e = true then al_cap C.2 else 0)) (by omega) (by have := sv_pay C e; omega) ?_
    refine xw_cl (ct_F_put H w3 (by decide) (by omega)) (iv_S_copyAsItIs_15 H.1) ok_F_put rfl rfl rfl ?_ (fun _ _ _ q => by cases q.1)
    rintro v h' z q
    have q' := cp_put hd q
    have hv := q.1
    cases hv
    exact xw_vret dd_S_copyAsItIs_18 rfl q'
theorem ct_S_copyNote {o t p cur a ea ft fa fea fcap y ey : Nat} {mk gr r most : Int32} {ls : Bool} {C : List sv_E × Nat} {xs ys : List Nat} {fs : List sv_E} {e : sv_E} (hO : h o = some (su_c t p cur mk ls gr)) (H : ft_at G h t a ea C.2 (nI 512) xs C.1) (HF : ft_at G h ft fa fea fcap most ys fs) (hcap : C.2 ≤ 766) (w2 : h y = some (nt_c ey r)) (w3 : h ey = some (en_c e)) (hfa : fa ≠ a) (hfe : fea ≠ ea ∨ C.2 = 0) : xa_T G mm_S_copyNote 9 1 (4 * ((sv_cnt fs C e r).2 - C.2)) [.ref o, .ref y, .ref ft] h sz (cp_q G h sz t a ea C (sv_cnt fs C e r)) := by
  refine xt_o ok_S_copyNote rfl rfl ?_
  refine xw_dom (fun hd _ => ?_)
  refine xw_aloadR_n dd_S_copyNote_0 rfl ?_
  refine xw_get fl_S_95 dd_S_copyNote_1 w2 rfl ?_
  refine xw_get fl_S_61 dd_S_copyNote_4 w3 rfl ?_
  refine xw_istore_n dd_S_copyNote_7 (by decide) ?_
  refine xw_aloadR_n dd_S_copyNote_8 rfl ?_
  refine xw_bipush 64 dd_S_copyNote_9 (by decide) ?_
  refine xw_cl0 (ct_N_hasAny w2) (iv_S_copyNote_11 w2) ok_N_hasAny rfl rfl rfl ?_ (fun _ _ _ q => by cases q.1)
  rintro v h sz ⟨hv, rfl, rfl⟩
  cases hv
  by_cases hz : r &&& 64 = 0
  · rw [if_pos hz]
    refine xw_if_eq 34 dd_S_copyNote_14 (by decide) (fun hc => ?_) (fun hc => absurd rfl hc)
    refine xw_aloadR_n dd_S_copyNote_34 rfl ?_
    refine xw_bipush 32 dd_S_copyNote_35 (by decide) ?_
    refine xw_cl0 (ct_N_hasAny w2) (iv_S_copyNote_37 w2) ok_N_hasAny rfl rfl rfl ?_ (fun _ _ _ q => by cases q.1)
    rintro v h sz ⟨hv, rfl, rfl⟩
    cases hv
    by_cases hz2 : r &&& 32 = 0
    · have hn : sv_cnt fs C e r = sv_putc C e := by
        unfold sv_cnt
        rw [if_pos hz, if_pos hz2]
      rw [if_pos hz2, hn]
      refine xw_if_eq 54 dd_S_copyNote_40 (by decide) (fun hc => ?_) (fun hc => absurd rfl hc)
      refine xw_aloadR_n dd_S_copyNote_54 rfl ?_
      refine xw_get fl_S_14 dd_S_copyNote_55 hO rfl ?_
      refine xw_aloadR_n dd_S_copyNote_58 rfl ?_
      refine xw_get fl_S_95 dd_S_copyNote_59 w2 rfl ?_
      refine xw_less (kc' := 0 + 1) (ks' := 0 + (if sv_gro C.1 512 C.2 e = true then al_cap C.2 else 0)) (by omega) (by have := sv_pay C e; omega) ?_
      refine xw_cl (ct_F_put H w3 (by decide) (by omega)) (iv_S_copyNote_62 H.1) ok_F_put rfl rfl rfl ?_ (fun _ _ _ q => by cases q.1)
      rintro v h' z q
      have q' := cp_put hd q
      have hv := q.1
      cases hv
      exact xw_vret dd_S_copyNote_65 rfl q'
    · have hn : sv_cnt fs C e r = sv_del C e.1 := by
        unfold sv_cnt
        rw [if_pos hz, if_neg hz2]
      rw [if_neg hz2, hn]
      refine xw_if_eq 54 dd_S_copyNote_40 (by decide) (fun hc => absurd hc (by decide)) (fun hc => ?_)
      refine xw_aloadR_n dd_S_copyNote_43 rfl ?_
      refine xw_get fl_S_14 dd_S_copyNote_44 hO rfl ?_
      refine xw_iload_n dd_S_copyNote_47 rfl ?_
      refine xw_cl0 (ct_F_drop H) (iv_S_copyNote_48 H.1) ok_F_drop rfl rfl rfl ?_ (fun _ _ _ q => by cases q.1)
      rintro v h' z q
      have q' := cp_del q
      have hv := q.1
      cases hv
      refine xw_goto 65 dd_S_copyNote_51 (by decide) ?_
      exact xw_vret dd_S_copyNote_65 rfl q'
  · have hn : sv_cnt fs C e r = sv_now fs (sv_del C e.1) e.1 := by
      unfold sv_cnt
      rw [if_neg hz]
    rw [if_neg hz, hn]
    refine xw_if_eq 34 dd_S_copyNote_14 (by decide) (fun hc => absurd hc (by decide)) (fun hc => ?_)
    refine xw_aloadR_n dd_S_copyNote_17 rfl ?_
    refine xw_get fl_S_14 dd_S_copyNote_18 hO rfl ?_
    refine xw_iload_n dd_S_copyNote_21 rfl ?_
    refine xw_cl0 (ct_F_drop H) (iv_S_copyNote_22 H.1) ok_F_drop rfl rfl rfl ?_ (fun _ _ _ q => by cases q.1)
    rintro v h1 z1 q
    have hv := q.1
    cases hv
    obtain ⟨-, ⟨ea1, xs1, q2, q3⟩, q4, q5⟩ := cp_del q
    have hO1 := ft_ok H q5 hO (by simp [xt]) (by simp [xt])
    have HF1 := ft_oth (sz := sz) H HF hfa hfe q5
    refine xw_aloadR_n dd_S_copyNote_25 rfl ?_
    refine xw_iload_n dd_S_copyNote_26 rfl ?_
    refine xw_aloadR_n dd_S_copyNote_27 rfl ?_
    refine xw_less (kc' := 0 + 1) (ks' := 0 + 4 * ((sv_now fs (sv_del C e.1) e.1).2 - (sv_del C e.1).2)) (by omega) (by show 0 + 4 * ((sv_now fs (sv_del C e.1) e.1).2 - C.2) ≤ _; omega) ?_
    refine xw_cl (ct_S_copyAsItIs (C := sv_del C e.1) (f := e.1) hO1 q2 HF1 hcap) (iv_S_copyNote_28 hO1) ok_S_copyAsItIs rfl rfl rfl ?_ (fun _ _ _ q => by cases q.1)
    rintro v h2 z2 u
    have u' := cp_trans (C := C) hd q3 q4 q5 u
    have hv := u.1
    cases hv
    refine xw_goto 65 dd_S_copyNote_31 (by decide) ?_
    exact xw_vret dd_S_copyNote_65 rfl u'
abbrev su_k (o p a ea cap : Nat) : Nat → xa_E → Prop := fun b _ => b ≠ o ∧ b ≠ p ∧ b ≠ a ∧ (b ≠ ea ∨ cap = 0)
theorem ct_S_copyPage {o t p a ea ft fa fea fcap : Nat} {most : Int32} {S : sv_S} {ys : List Nat} {fs : List sv_E} (H : su_at G h o t a ea p S) (HF : ft_at G h ft fa fea fcap most ys fs) (hcap : su_cap S ≤ 766) (hfa : fa ≠ a) (hfe : fea ≠ ea ∨ su_cap S = 0) : xa_T G mm_S_copyPage 9 4 (4 * (su_cap (sv_cpg fs S) - su_cap S)) [.ref o, .ref ft] h sz (fun o' h' z => o' = .returned none ∧ (∃ ea', su_at G h' o t a ea' p (sv_cpg fs S) ∧ er sz ea (su_cap S) ea' (su_cap (sv_cpg fs S))) ∧ sz ≤ z ∧ xk h h' (su_k o p a ea (su_cap S))) := by
  obtain ⟨hO, ⟨xs, hF⟩, hP, hBo, hBp⟩ := H
  refine xt_o ok_S_copyPage rfl rfl ?_
  refine xw_dom (fun hd _ => ?_)
  refine xw_aloadR_n dd_S_copyPage_0 rfl ?_
  refine xw_get fl_S_54 dd_S_copyPage_1 hO rfl ?_
  refine xw_istore_n dd_S_copyPage_4 (by decide) ?_
  refine xw_aloadR_n dd_S_copyPage_5 rfl ?_
  refine xw_aloadR_n dd_S_copyPage_6 rfl ?_
  refine xw_cl0 (ct_S_showPage hO hP hBo hBp HF) (iv_S_copyPage_7 hO) ok_S_showPage rfl rfl rfl ?_ (fun _ _ _ q => by cases q.1)
  rintro v h1 z1 ⟨hv, rfl, n1, n2, f1⟩
  cases hv
  have n1 : h1 o = some (su_c t p (su_cur S) (su_mask S) (su_ls (sv_page fs S)) (su_gr (sv_page fs S))) := n1
  have n2 : h1 p = some (pg_c (su_pg (sv_page fs S))) := n2
  have hk1 : ∀ {tt aa ee cc : Nat} {mm : Int32} {xx : List Nat} {ff : List sv_E}, ft_at G h tt aa ee cc mm xx ff → ft_at G h1 tt aa ee cc mm xx ff := fun W => W.kp (fun b e hb hc => by
    have e7 : xt e ≠ 7 ∧ xt e ≠ 100 := by rcases hc with ⟨-, q⟩ | ⟨-, q⟩ | ⟨-, q⟩ | q <;> omega
    rw [f1 b (xt_ne hb hO (by simp [xt] at *; omega)) (xt_ne hb hP (by simp [xt] at *; omega))]
    exact hb)
  have hF1 := hk1 hF
  have HF1 := hk1 HF
  refine xw_pop dd_S_copyPage_10 rfl ?_
  refine xw_aloadR_n dd_S_copyPage_11 rfl ?_
  refine xw_get fl_S_14 dd_S_copyPage_12 n1 rfl ?_
  refine xw_iload_n dd_S_copyPage_15 rfl ?_
  refine xw_aloadR_n dd_S_copyPage_16 rfl ?_
  refine xw_get fl_S_37 dd_S_copyPage_17 n1 rfl ?_
  refine xw_dom (fun hd1 _ => ?_)
  have rest : xa_W G mm_S_copyPage 9 4 (4 * (su_cap (sv_cpg fs S) - su_cap S)) 32 [some (.ref o), some (.ref ft), some (.int (su_gr S)), none] [.int (if su_ls (sv_page fs S) = true then su_gr (sv_page fs S) else 2147483647), .int (su_gr S), .ref t] h1 z1 (fun o' h' z => o' = .returned none ∧ (∃ ea', su_at G h' o t a ea' p (sv_cpg fs S) ∧ er z1 ea (su_cap S) ea' (su_cap (sv_cpg fs S))) ∧ z1 ≤ z ∧ xk h h' (su_k o p a ea (su_cap S))) := by
    refine xw_cl0 (ct_F_dropRange hF1) (iv_S_copyPage_32 hF1.1) ok_F_dropRange rfl rfl rfl ?_ (fun _ _ _ q => by cases q.1)
    rintro v h2 z2 q
    have hv := q.1
    cases hv
    obtain ⟨-, ⟨ea2, xs2, q2, q3⟩, q4, q5⟩ := cp_del (C := (su_cp S, su_cap S)) q
    have loop : ∀ (k i : Nat) (h3 : xa_H) (z3 ea3 : Nat) (xs3 : List Nat) (C3 : List sv_E × Nat), i + k = 4 → ft_at G h3 t a ea3 C3.2 (nI 512) xs3 C3.1 → er z1 ea (su_cap S) ea3 C3.2 → z1 ≤ z3 → xk h1 h3 (ft_k a ea (su_cap S)) → C3.2 ≤ 766 → su_cap S ≤ C3.2 → sv_cps fs (su_pg (sv_page fs S)) k i C3 = sv_cpC fs S → xa_W G mm_S_copyPage 9 k (4 * ((sv_cpC fs S).2 - C3.2)) 37 [some (.ref o), some (.ref ft), some (.int (su_gr S)), some (.int (nI i))] [] h3 z3 (fun o' h' z => o' = .returned none ∧ (∃ ea', su_at G h' o t a ea' p (sv_cpg fs S) ∧ er z1 ea (su_cap S) ea' (su_cap (sv_cpg fs S))) ∧ z1 ≤ z ∧ xk h h' (su_k o p a ea (su_cap S))) := by
      intro k
      induction k with
      | zero =>
        intro i h3 z3 ea3 xs3 C3 hk k1 k2 k3 k4 k5 k6 k7
        have : i = 4 := by omega
        subst this
        have k7 : C3 = sv_cpC fs S := k7
        have hO3 := ft_ok hF1 k4 n1 (by simp [xt]) (by simp [xt])
        have hP3 := ft_ok hF1 k4 n2 (by simp [xt]) (by simp [xt])
        refine xw_iload_n dd_S_copyPage_37 rfl ?_
        refine xw_iconst 4 dd_S_copyPage_38 (by decide) ?_
        refine xw_icmp_ge 59 dd_S_copyPage_39 (by decide) (fun hc => ?_) (fun hc => absurd (by decide) hc)
        subst k7
        refine xw_vret dd_S_copyPage_59 rfl ⟨rfl, ⟨ea3, ⟨hO3, ⟨xs3, k1⟩, hP3, hBo, hBp⟩, k2⟩, k3, fun b e hb hp => ?_⟩
        exact k4 b e ((f1 b hp.1 hp.2.1).trans hb) hp.2.2
      | succ k ih =>
        intro i h3 z3 ea3 xs3 C3 hk k1 k2 k3 k4 k5 k6 k7
        have hO3 := ft_ok hF1 k4 n1 (by simp [xt]) (by simp [xt])
        have hP3 := ft_ok hF1 k4 n2 (by simp [xt]) (by simp [xt])
        have HF3 := ft_oth (sz := z1) hF1 HF1 hfa hfe k4
        refine xw_iload_n dd_S_copyPage_37 rfl ?_
        refine xw_iconst 4 dd_S_copyPage_38 (by decide) ?_
        refine xw_icmp_ge 59 dd_S_copyPage_39 (by decide) (fun hc => absurd hc (nI_ge (a := i) (b := 4) (by omega) (by decide))) (fun hc => ?_)
        refine xw_aloadR_n dd_S_copyPage_42 rfl ?_
        refine xw_aloadR_n dd_S_copyPage_43 rfl ?_
        refine xw_get fl_S_20 dd_S_copyPage_44 hO3 rfl ?_
        refine xw_iload_n dd_S_copyPage_47 rfl ?_
        refine xw_iald dd_S_copyPage_48 hP3 (vp_in_nI (by omega) (by decide)) ?_
        rw [nI_clamp (by omega)]
        refine xw_aloadR_n dd_S_copyPage_49 rfl ?_
        have k7' : sv_cps fs (su_pg (sv_page fs S)) k (i + 1) (sv_now fs C3 (su_pg (sv_page fs S) i)) = sv_cpC fs S := k7
        have c1 := sv_nowC fs C3 (su_pg (sv_page fs S) i)
        have c2 := sv_cpsC fs (su_pg (sv_page fs S)) k (i + 1) (sv_now fs C3 (su_pg (sv_page fs S) i))
        rw [k7'] at c2
        refine xw_less (kc' := k + 1) (ks' := 4 * ((sv_cpC fs S).2 - (sv_now fs C3 (su_pg (sv_page fs S) i)).2) + 4 * ((sv_now fs C3 (su_pg (sv_page fs S) i)).2 - C3.2)) (by omega) (by omega) ?_
        refine xw_dom (fun hd3 _ => ?_)
        refine xw_cl (ct_S_copyAsItIs hO3 k1 HF3 k5) (iv_S_copyPage_50 hO3) ok_S_copyAsItIs rfl rfl rfl ?_ (fun _ _ _ q => by cases q.1)
        rintro v h4 z4 u
        have hv := u.1
        cases hv
        obtain ⟨-, ⟨ea4, xs4, u2, u3⟩, u4, u5⟩ := u
        refine xw_iinc dd_S_copyPage_53 rfl (nI_1 i) (by decide) ?_
        refine xw_goto 37 dd_S_copyPage_56 (by decide) ?_
        exact ih (i + 1) h4 z4 ea4 xs4 _ (by omega) u2 (k2.trans u3 k3) (by omega) (ft_k_step hd1 k4 k2 u5) (sv_now766 fs _ k5) (by omega) k7'
    refine xw_iconst 0 dd_S_copyPage_35 (by decide) ?_
    refine xw_istore_n dd_S_copyPage_36 (by decide) ?_
    exact loop 4 0 h2 z2 ea2 xs2 _ rfl q2 q3 q4 q5 hcap (Nat.le_refl _) rfl
  by_cases hl : su_ls (sv_page fs S) = true
  · rw [if_pos hl] at rest ⊢
    refine xw_if_eq 30 dd_S_copyPage_20 (by decide) (fun hc => absurd hc (by decide)) (fun hc => ?_)
    refine xw_aloadR_n dd_S_copyPage_23 rfl ?_
    refine xw_get fl_S_54 dd_S_copyPage_24 n1 rfl ?_
    refine xw_goto 32 dd_S_copyPage_27 (by decide) ?_
    exact rest
  · rw [if_neg hl] at rest ⊢
    refine xw_if_eq 30 dd_S_copyPage_20 (by decide) (fun hc => ?_) (fun hc => absurd rfl hc)
    refine xw_ldcI ic_S_86 dd_S_copyPage_30 ?_
    exact rest
theorem sv_scan_in {rg : Nat → Nat → Int32} {mask : Int32} : ∀ {k s j : Nat}, sv_scan rg mask k s = some j → s ≤ j ∧ j < s + k
  | 0, s, j, h => by cases h
  | k + 1, s, j, h => by
    unfold sv_scan at h
    split at h
    · have := sv_scan_in h
      omega
    · cases h
      omega
theorem sv_nt_eq {rg : Nat → Nat → Int32} {s : Nat} {e : sv_E} {r : Int32} (h : rg (s % 16) = sv_item e r) : sv_nt rg s = e ∧ rg (s % 16) 5 = r := by
  unfold sv_nt
  rw [h]
  exact ⟨rfl, rfl⟩
theorem ct_S_act {o t p a ea ft fa fea fcap r c hd : Nat} {most : Int32} {S : sv_S} {ys : List Nat} {fs : List sv_E} {f : Nat → Option Nat} {rg : Nat → Nat → Int32} (H : su_at G h o t a ea p S) (HF : ft_at G h ft fa fea fcap most ys fs) (hcap : su_cap S ≤ 766) (hfa : fa ≠ a) (hfe : fea ≠ ea ∨ su_cap S = 0) (hcur : su_cur S ≤ hd) (hR : rg_at h r c hd f) (hN : rn_at h f hd rg) : xa_T G mm_S_act 10 4 (4 * (su_cap (sv_act hd rg fs S).2 - su_cap S)) [.ref o, .ref r, .ref ft] h sz (fun o' h' z => o' = .returned (some (.int (if (sv_act hd rg fs S).1 = true then 1 else 0))) ∧ (∃ ea', su_at G h' o t a ea' p (sv_act hd rg fs S).2 ∧ er sz ea (su_cap S) ea' (su_cap (sv_act hd rg fs S).2)) ∧ sz ≤ z ∧ xk h h' (su_k o p a ea (su_cap S))) := by
  have H0 := H
  obtain ⟨hO, ⟨xs, hF⟩, hP, hBo, hBp⟩ := H
  have hlim := hR.2.2
  refine xt_o ok_S_act rfl rfl ?_
  refine xw_dom (fun hdm _ => ?_)
  refine xw_aloadR_n dd_S_act_0 rfl ?_
  refine xw_get fl_S_37 dd_S_act_1 hO rfl ?_
  by_cases hl : su_ls S = true
  · have hs : sv_act hd rg fs S = (true, sv_cpg fs S) := by
      unfold sv_act
      rw [if_pos hl]
    rw [hs, if_pos hl]
    refine xw_if_eq 14 dd_S_act_4 (by decide) (fun hc => absurd hc (by decide)) (fun hc => ?_)
    refine xw_aloadR_n dd_S_act_7 rfl ?_
    refine xw_aloadR_n dd_S_act_8 rfl ?_
    refine xw_less (kc' := 0 + 4) (ks' := 0 + 4 * (su_cap (sv_cpg fs S) - su_cap S)) (by omega) (by rw [Nat.zero_add]; exact Nat.le_refl _) ?_
    refine xw_cl (ct_S_copyPage H0 HF hcap hfa hfe) (iv_S_act_9 hO) ok_S_copyPage rfl rfl rfl ?_ (fun _ _ _ q => by cases q.1)
    rintro v h1 z1 ⟨hv, q2, q3, q4⟩
    cases hv
    refine xw_iconst 1 dd_S_act_12 (by decide) ?_
    exact xw_zret dd_S_act_13 rfl rfl ⟨rfl, q2, q3, q4⟩
  · rw [if_neg hl]
    refine xw_if_eq 14 dd_S_act_4 (by decide) (fun hc => ?_) (fun hc => absurd rfl hc)
    refine xw_aloadR_n dd_S_act_14 rfl ?_
    refine xw_aloadR_n dd_S_act_15 rfl ?_
    refine xw_bipush 127 dd_S_act_16 (by decide) ?_
    refine xw_cl0 (ct_S_takeNote hO hBo hcur hR hN) (iv_S_act_18 hO) ok_S_takeNote rfl rfl rfl ?_ (fun _ _ _ q => by cases q.1)
    rintro v h1 z1 ⟨hv, rfl, n1, f1⟩
    cases hv
    have hop : o ≠ p := xt_ne hO hP (by simp [xt])
    have hk1 : ∀ {tt aa ee cc : Nat} {mm : Int32} {xx : List Nat} {ff : List sv_E}, ft_at G h tt aa ee cc mm xx ff → ft_at G h1 tt aa ee cc mm xx ff := fun W => W.kp (fun b e hb hc => by
      have e7 : xt e ≠ 7 := by rcases hc with ⟨-, q⟩ | ⟨-, q⟩ | ⟨-, q⟩ | q <;> omega
      rw [f1 b (xt_ne hb hO e7)]
      exact hb)
    have hF1 := hk1 hF
    have HF1 := hk1 HF
    have hP1 := (f1 p (fun q => hop q.symm)).trans hP
    have hR1 : rg_at h1 r c hd f := hR.kp (fun b e hb hc => (f1 b (xt_ne hb hO (by rcases hc with ⟨-, q⟩ | ⟨-, q⟩ <;> (rw [q]; simp [xt])))).trans hb)
    have hN1 : rn_at h1 f hd rg := hN.kp (fun b e hb hc => (f1 b (xt_ne hb hO (by rcases hc with q | q <;> (rw [q]; simp [xt])))).trans hb)
    refine xw_istore_n dd_S_act_21 (by decide) ?_
    by_cases hlt : su_cur S < rg_tl hd
    · have hrd : sv_read hd rg (su_cur S) 127 = (-1, su_cur S) := by
        unfold sv_read
        rw [if_pos hlt]
      have hs : sv_act hd rg fs S = (true, sv_lst hd S) := by
        unfold sv_act
        rw [if_neg hl, if_pos hlt]
      rw [hrd] at n1
      rw [hrd, hs]
      refine xw_iload_n dd_S_act_22 rfl ?_
      refine xw_iconst (-1) dd_S_act_23 (by decide) ?_
      refine xw_icmp_ne 34 dd_S_act_24 (by decide) (fun hc => absurd rfl hc) (fun hc => ?_)
      refine xw_aloadR_n dd_S_act_27 rfl ?_
      refine xw_aloadR_n dd_S_act_28 rfl ?_
      refine xw_cl0 (ct_S_beginListing (S := S) (a := a) (ea := ea) ⟨n1, ⟨xs, hF1⟩, hP1, hBo, hBp⟩ hR1) (iv_S_act_29 n1) ok_S_beginListing rfl rfl rfl ?_ (fun _ _ _ q => by cases q.1)
      rintro v h2 z2 ⟨hv, rfl, q2, q3⟩
      cases hv
      refine xw_iconst 1 dd_S_act_32 (by decide) ?_
      exact xw_zret dd_S_act_33 rfl rfl ⟨rfl, ⟨ea, q2, Or.inl ⟨rfl, rfl⟩⟩, Nat.le_refl _, fun b e hb hp => (q3 b hp.1).trans ((f1 b hp.1).trans hb)⟩
    · cases hsc : sv_scan rg 127 (hd - su_cur S) (su_cur S) with
      | none =>
        have hrd : sv_read hd rg (su_cur S) 127 = (0, hd) := by
          unfold sv_read
          rw [if_neg hlt, hsc]
        have hs : sv_act hd rg fs S = (false, sv_setC hd S) := by
          unfold sv_act
          rw [if_neg hl, if_neg hlt, hsc]
        rw [hrd] at n1
        rw [hrd, hs]
        refine xw_iload_n dd_S_act_22 rfl ?_
        refine xw_iconst (-1) dd_S_act_23 (by decide) ?_
        refine xw_icmp_ne 34 dd_S_act_24 (by decide) (fun hc => ?_) (fun hc => absurd hc (show ¬ (0 : Int32) = -1 by decide))
        refine xw_aloadR_n dd_S_act_34 rfl ?_
        refine xw_iload_n dd_S_act_35 rfl ?_
        refine xw_cl0 (ct_R_noteAt hR1) (iv_S_act_36 hR1.1) ok_R_noteAt rfl rfl rfl ?_ (fun _ _ _ q => by cases q.1)
        rintro v h2 z2 ⟨hv, rfl, rfl⟩
        cases hv
        have htl : 1 ≤ rg_tl hd := by unfold rg_tl; split <;> omega
        have htl2 : rg_tl hd ≤ hd := by unfold rg_tl; split <;> omega
        rw [if_neg (fun q => nI_ge (a := 0) (b := rg_tl hd) (by omega) (by omega) q.1)]
        refine xw_astore (r := none) dd_S_act_39 (by decide) ?_
        refine xw_aload (r := none) dd_S_act_41 rfl ?_
        refine xw_ifnonnullN dd_S_act_43 ?_
        refine xw_iconst 0 dd_S_act_46 (by decide) ?_
        exact xw_zret dd_S_act_47 rfl rfl ⟨rfl, ⟨ea, ⟨n1, ⟨xs, hF1⟩, hP1, hBo, hBp⟩, Or.inl ⟨rfl, rfl⟩⟩, Nat.le_refl _, fun b e hb hp => (f1 b hp.1).trans hb⟩
      | some s =>
        have hin := sv_scan_in hsc
        have hrd : sv_read hd rg (su_cur S) 127 = (nI s, s + 1) := by
          unfold sv_read
          rw [if_neg hlt, hsc]
        obtain ⟨y, ey, e, rr, w1, w2, w3, w4⟩ := hN1 s (by omega) (by omega)
        obtain ⟨e1, e2⟩ := sv_nt_eq w4
        have hs : sv_act hd rg fs S = (true, sv_setCp (sv_cnt fs (su_cp S, su_cap S) e rr) (sv_setC (s + 1) S)) := by
          unfold sv_act
          rw [if_neg hl, if_neg hlt, hsc]
          simp only
          rw [e1, e2]
        rw [hrd] at n1
        rw [hrd, hs]
        refine xw_iload_n dd_S_act_22 rfl ?_
        refine xw_iconst (-1) dd_S_act_23 (by decide) ?_
        refine xw_icmp_ne 34 dd_S_act_24 (by decide) (fun hc => ?_) (fun hc => absurd (show nI s < 0 by rw [show nI s = -1 from hc]; decide) (nI_pos (n := s) (by omega)))
        refine xw_aloadR_n dd_S_act_34 rfl ?_
        refine xw_iload_n dd_S_act_35 rfl ?_
        refine xw_cl0 (ct_R_noteAt hR1) (iv_S_act_36 hR1.1) ok_R_noteAt rfl rfl rfl ?_ (fun _ _ _ q => by cases q.1)
        rintro v h2 z2 ⟨hv, rfl, rfl⟩
        cases hv
        rw [if_pos ⟨nI_le (by omega) (by omega), nI_lt (by omega) (by omega)⟩, nI_clamp (by omega), w1]
        refine xw_astore (r := some y) dd_S_act_39 (by decide) ?_
        refine xw_aloadR dd_S_act_41 rfl ?_
        refine xw_ifnonnullR 48 dd_S_act_43 (by decide) ?_
        refine xw_aloadR_n dd_S_act_48 rfl ?_
        refine xw_aloadR dd_S_act_49 rfl ?_
        refine xw_aloadR_n dd_S_act_51 rfl ?_
        refine xw_dom (fun hd1 _ => ?_)
        refine xw_less (kc' := 0 + 1) (ks' := 0 + 4 * ((sv_cnt fs (su_cp S, su_cap S) e rr).2 - (su_cp S, su_cap S).2)) (by omega) (by show 0 + 4 * ((sv_cnt fs (su_cp S, su_cap S) e rr).2 - su_cap S) ≤ 4 * ((sv_cnt fs (su_cp S, su_cap S) e rr).2 - su_cap S); omega) ?_
        refine xw_cl (ct_S_copyNote (C := (su_cp S, su_cap S)) n1 hF1 HF1 hcap w2 w3 hfa hfe) (iv_S_act_52 n1) ok_S_copyNote rfl rfl rfl ?_ (fun _ _ _ q => by cases q.1)
        rintro v h3 z3 u
        have hv := u.1
        cases hv
        obtain ⟨-, ⟨ea3, xs3, u2, u3⟩, u4, u5⟩ := u
        refine xw_iconst 1 dd_S_act_55 (by decide) ?_
        refine xw_zret dd_S_act_56 rfl rfl ⟨rfl, ⟨ea3, ⟨ft_ok hF1 u5 n1 (by simp [xt]) (by simp [xt]), ⟨xs3, u2⟩, ft_ok hF1 u5 hP1 (by simp [xt]) (by simp [xt]), hBo, hBp⟩, u3⟩, u4, fun b e hb hp => ?_⟩
        exact u5 b e ((f1 b hp.1).trans hb) hp.2.2
end SC
end
section
/-! exceptions of the class -/
def xn_1 : List String := ["java/lang/RuntimeException", "java/lang/Exception"]
theorem ex_10 : xa_E0 "NotedVolume" 57 61 10 "java/lang/IllegalStateException" 7 prog_16_method_2_code xn_1 :=
  ⟨⟨_, rfl⟩, by decide +kernel, by decide +kernel, by decide, by decide +kernel, by decide +kernel, by decide +kernel, by decide +kernel, by decide +kernel⟩
theorem ex_11 : xa_E0 "NotedVolume" 174 178 11 "java/lang/IllegalArgumentException" 7 prog_15_method_2_code xn_1 :=
  ⟨⟨_, rfl⟩, by decide +kernel, by decide +kernel, by decide, by decide +kernel, by decide +kernel, by decide +kernel, by decide +kernel, by decide +kernel⟩
theorem ex_12 : xa_E0 "NotedVolume" 133 137 12 "java/util/NoSuchElementException" 13 prog_35_method_4_code xn_1 :=
  ⟨⟨_, rfl⟩, by decide +kernel, by decide +kernel, by decide, by decide +kernel, by decide +kernel, by decide +kernel, by decide +kernel, by decide +kernel⟩
theorem ex_13 : xa_E0 "NotedVolume" 93 97 13 "java/lang/UnsupportedOperationException" 7 prog_28_method_2_code xn_1 :=
  ⟨⟨_, rfl⟩, by decide +kernel, by decide +kernel, by decide, by decide +kernel, by decide +kernel, by decide +kernel, by decide +kernel, by decide +kernel⟩
theorem ex_14 : xa_E0 "NotedVolume" 245 249 14 "java/lang/IndexOutOfBoundsException" 7 prog_17_method_2_code xn_1 :=
  ⟨⟨_, rfl⟩, by decide +kernel, by decide +kernel, by decide, by decide +kernel, by decide +kernel, by decide +kernel, by decide +kernel, by decide +kernel⟩
end
section
/-! NotedVolume: its state (by program: wip/whole/mk26.py) -/
abbrev vo_c (x lt : Nat) (on : Bool) (lf : Int32) : xa_E := .inr (0, [.ref (x + 1), .ref (x + 3), .ref (x + 5), .ref (x + 7), .int (nI (lt + 1)), .int (if on = true then 1 else 0), .int lf])
def vc_r (h : xa_H) (x hd : Nat) (rg : Nat → Nat → Int32) : Prop := ∃ f, rg_at h (x + 3) (x + 4) hd f ∧ rn_at h f hd rg
def vc_a (h : xa_H) (x : Nat) : Prop := ∃ g, h (x + 7) = some (xr_q 5 3 g) ∧ ∀ s, s < 3 → g s = some (x + 8 + 4 * s)
def vo_d (ar cp : Nat → Nat) : Prop := ∀ i j, i < 5 → j < 5 → i ≠ j → ar i ≠ ar j ∨ cp i = 0
def vo_p (G : xa_G) (x hd : Nat) (S : Nat → sv_S) (ar cp : Nat → Nat) : Prop := G.2.2.1 ≤ x ∧ cp 0 ≤ 28 ∧ cp 1 ≤ 22 ∧ (∀ s, s < 3 → cp (2 + s) = su_cap (S s) ∧ su_cap (S s) ≤ 766 ∧ su_cur (S s) ≤ hd) ∧ vo_d ar cp
/-- the volume at x: what it is, its subscribers; the arrays of its lists, and their capacities -/
def vo_at (G : xa_G) (h : xa_H) (x : Nat) (V : sv_V) (S : Nat → sv_S) (ar cp : Nat → Nat) : Prop := h x = some (vo_c x (sv_lt V) (sv_on V) (sv_lf V)) ∧ (∃ xs, ft_at G h (x + 1) (x + 2) (ar 0) (cp 0) (nI 20) xs (sv_fs V)) ∧ vc_r h x (sv_hd V) (sv_rg V) ∧ gh_at G h (x + 5) (x + 6) (ar 1) (cp 1) (sv_gs V) ∧ vc_a h x ∧ (∀ s, s < 3 → su_at G h (x + 8 + 4 * s) (x + 9 + 4 * s) (x + 10 + 4 * s) (ar (2 + s)) (x + 11 + 4 * s) (S s)) ∧ vo_p G x (sv_hd V) S ar cp
def vs (G : xa_G) (h : xa_H) (x : Nat) (V : sv_V) (S : Nat → sv_S) : Prop := ∃ ar cp, vo_at G h x V S ar cp
/-- what no call on the volume changes -/
def frV (x : Nat) (h h1 : xa_H) : Prop := ∀ b e, h b = some e → (xt e = 1 ∨ (x + 20 ≤ b ∧ (xt e = 9 ∨ (100 ≤ xt e ∧ xt e ≤ 102)))) → h1 b = some e
theorem frV.trans {x : Nat} {h h1 h2 : xa_H} (H1 : frV x h h1) (H2 : frV x h1 h2) : frV x h h2 := fun b e hb hp => H2 b e (H1 b e hb hp) hp
theorem frV.refl {x : Nat} {h : xa_H} : frV x h h := fun _ _ hb _ => hb
theorem su_at.kp {G : xa_G} {h h1 : xa_H} {o t a ea p : Nat} {S : sv_S} (H : su_at G h o t a ea p S) (hk : ∀ b e, h b = some e → ((b = o ∧ xt e = 7) ∨ (b = p ∧ xt e = 100) ∨ (b = t ∧ xt e = 2) ∨ (b = a ∧ xt e = 8) ∨ (b = ea ∧ xt e = 103) ∨ xt e = 1) → h1 b = some e) : su_at G h1 o t a ea p S := by
  obtain ⟨h1', ⟨xs, h2⟩, h3, h4⟩ := H
  exact ⟨hk _ _ h1' (Or.inl ⟨rfl, rfl⟩), ⟨xs, h2.kp (fun b e hb hc => hk b e hb (Or.inr (Or.inr hc)))⟩, hk _ _ h3 (Or.inr (Or.inl ⟨rfl, rfl⟩)), h4⟩
theorem vc_r.kp {h h1 : xa_H} {x hd : Nat} {rg : Nat → Nat → Int32} (H : vc_r h x hd rg) (hk : ∀ b e, h b = some e → ((b = x + 3 ∧ xt e = 4) ∨ (b = x + 4 ∧ xt e = 104) ∨ xt e = 3 ∨ xt e = 1) → h1 b = some e) : vc_r h1 x hd rg := by
  obtain ⟨f, h2, h3⟩ := H
  exact ⟨f, h2.kp (fun b e hb hc => hk b e hb (by omega)), h3.kp (fun b e hb hc => hk b e hb (by omega))⟩
theorem vc_a.kp {h h1 : xa_H} {x : Nat} (H : vc_a h x) (hk : ∀ b e, h b = some e → (b = x + 7 ∧ xt e = 105) → h1 b = some e) : vc_a h1 x := by
  obtain ⟨g, h2, h3⟩ := H
  exact ⟨g, hk _ _ h2 ⟨rfl, rfl⟩, h3⟩
def vu (f : Nat → Nat) (i v : Nat) : Nat → Nat := fun j => if j = i then v else f j
theorem vu_s (f : Nat → Nat) (i v : Nat) : vu f i v i = v := if_pos rfl
theorem vu_n (f : Nat → Nat) {i j : Nat} (v : Nat) (h : j ≠ i) : vu f i v j = f j := if_neg h
theorem vo_d.upd {ar cp : Nat → Nat} {sz k ea' cap' : Nat} (hD : vo_d ar cp) (hl : ∀ j, j < 5 → ar j < sz) (hk : k < 5) (he : er sz (ar k) (cp k) ea' cap') : vo_d (vu ar k ea') (vu cp k cap') := by
  intro i j hi hj hij
  by_cases e1 : i = k
  · subst e1
    rw [vu_s, vu_s, vu_n _ _ (fun q => hij q.symm)]
    rcases he with ⟨rfl, rfl⟩ | q
    · exact hD i j hi hj hij
    · have := hl j hj
      exact Or.inl (by omega)
  · rw [vu_n _ _ e1, vu_n _ _ e1]
    by_cases e2 : j = k
    · subst e2
      rw [vu_s]
      rcases he with ⟨rfl, rfl⟩ | q
      · exact hD i j hi hj hij
      · have := hl i hi
        exact Or.inl (by omega)
    · rw [vu_n _ _ e2]
      exact hD i j hi hj hij
section VO
variable {G : xa_G} {h h1 : xa_H} {sz x : Nat} {V : sv_V} {S : Nat → sv_S} {ar cp : Nat → Nat}
theorem vo_at.lt (H : vo_at G h x V S ar cp) (hd : xd_h h sz) : ∀ j, j < 5 → ar j < sz := by
  obtain ⟨-, ⟨xs, h2⟩, -, ⟨ys, h4⟩, -, h6, -⟩ := H
  intro j hj
  rcases (show j = 0 ∨ j = 1 ∨ ∃ s, s < 3 ∧ j = 2 + s by
    by_cases e0 : j = 0
    · exact Or.inl e0
    by_cases e1 : j = 1
    · exact Or.inr (Or.inl e1)
    exact Or.inr (Or.inr ⟨j - 2, by omega, by omega⟩)) with rfl | rfl | ⟨s, hs, rfl⟩
  · exact ft_lt hd h2
  · obtain ⟨-, ⟨-, -, g, ⟨-, k4, -⟩, -⟩, -⟩ := h4
    exact hd _ _ k4
  · obtain ⟨-, ⟨zs, k2⟩, -⟩ := h6 s hs
    exact ft_lt hd k2
/-- the numbers of the volume's own cell have changed -/
theorem vo_at.setX {fs : List sv_E} {lt hd lt' : Nat} {rg : Nat → Nat → Int32} {gs : List (Int32 × Int32)} {on on' : Bool} {lf lf' : Int32} (H : vo_at G h x (fs, lt, hd, rg, gs, on, lf) S ar cp) (hx : h1 x = some (vo_c x lt' on' lf')) (hk : ∀ b e, h b = some e → ¬ (xt e = 0 ∧ b = x) → h1 b = some e) : vo_at G h1 x (fs, lt', hd, rg, gs, on', lf') S ar cp := by
  obtain ⟨h1', ⟨xs, h2⟩, h3, h4, h5, h6, h7⟩ := H
  exact ⟨hx, ⟨xs, h2.kp (fun b e hb hc => hk b e hb (by omega))⟩, h3.kp (fun b e hb hc => hk b e hb (by omega)), h4.kp (fun b e hb hc => hk b e hb (by omega)), h5.kp (fun b e hb hc => hk b e hb (by omega)), fun s hs => (h6 s hs).kp (fun b e hb hc => hk b e hb (by omega)), h7⟩
/-- the files have changed -/
theorem vo_at.setF {fs fs' : List sv_E} {lt hd ea' cap' : Nat} {xs' : List Nat} {rg : Nat → Nat → Int32} {gs : List (Int32 × Int32)} {on : Bool} {lf : Int32} (H : vo_at G h x (fs, lt, hd, rg, gs, on, lf) S ar cp) (hdm : xd_h h sz) (hF : ft_at G h1 (x + 1) (x + 2) ea' cap' (nI 20) xs' fs') (he : er sz (ar 0) (cp 0) ea' cap') (hc0 : cap' ≤ 28) (hk : ∀ b e, h b = some e → ¬ ((xt e = 8 ∧ b = x + 2) ∨ (xt e = 103 ∧ b = ar 0 ∧ cp 0 ≠ 0)) → h1 b = some e) : vo_at G h1 x (fs', lt, hd, rg, gs, on, lf) S (vu ar 0 ea') (vu cp 0 cap') := by
  have hlt := H.lt hdm
  obtain ⟨h1', ⟨xs, h2⟩, h3, h4, h5, h6, h7⟩ := H
  obtain ⟨p1, p2, p3, p4, p5⟩ := id h7
  have d1 := p5 0 1 (by omega) (by omega) (by omega)
  refine ⟨hk _ _ h1' (by simp [xt]), ⟨xs', hF⟩, h3.kp (fun b e hb hc => hk b e hb (by omega)), h4.kp (fun b e hb hc => hk b e hb (by omega)), h5.kp (fun b e hb hc => hk b e hb (by omega)), fun s hs => ?_, p1, hc0, p3, fun s hs => ?_, p5.upd hlt (by omega) he⟩
  · have d2 := p5 0 (2 + s) (by omega) (by omega) (by omega)
    rw [vu_n _ _ (by omega)]
    exact (h6 s hs).kp (fun b e hb hc => hk b e hb (by omega))
  · rw [vu_n _ _ (by omega)]
    exact p4 s hs
/-- the ring has changed -/
theorem vo_at.setR {fs : List sv_E} {lt hd hd' : Nat} {rg rg' : Nat → Nat → Int32} {gs : List (Int32 × Int32)} {on : Bool} {lf : Int32} (H : vo_at G h x (fs, lt, hd, rg, gs, on, lf) S ar cp) (hR : vc_r h1 x hd' rg') (hle : hd ≤ hd') (hk : ∀ b e, h b = some e → ¬ ((xt e = 4 ∧ b = x + 3) ∨ (xt e = 104 ∧ b = x + 4)) → h1 b = some e) : vo_at G h1 x (fs, lt, hd', rg', gs, on, lf) S ar cp := by
  obtain ⟨h1', ⟨xs, h2⟩, h3, h4, h5, h6, h7⟩ := H
  obtain ⟨p1, p2, p3, p4, p5⟩ := id h7
  exact ⟨hk _ _ h1' (by simp [xt]), ⟨xs, h2.kp (fun b e hb hc => hk b e hb (by omega))⟩, hR, h4.kp (fun b e hb hc => hk b e hb (by omega)), h5.kp (fun b e hb hc => hk b e hb (by omega)), fun s hs => (h6 s hs).kp (fun b e hb hc => hk b e hb (by omega)), p1, p2, p3, fun s hs => ⟨(p4 s hs).1, (p4 s hs).2.1, Nat.le_trans (p4 s hs).2.2 hle⟩, p5⟩
/-- the gatherings have changed -/
theorem vo_at.setG {fs : List sv_E} {lt hd ea' cap' : Nat} {rg : Nat → Nat → Int32} {gs gs' : List (Int32 × Int32)} {on : Bool} {lf : Int32} (H : vo_at G h x (fs, lt, hd, rg, gs, on, lf) S ar cp) (hdm : xd_h h sz) (hF : gh_at G h1 (x + 5) (x + 6) ea' cap' gs') (he : er sz (ar 1) (cp 1) ea' cap') (hc0 : cap' ≤ 22) (hk : ∀ b e, h b = some e → ¬ ((xt e = 8 ∧ b = x + 6) ∨ (xt e = 103 ∧ b = ar 1 ∧ cp 1 ≠ 0) ∨ xt e = 5) → h1 b = some e) : vo_at G h1 x (fs, lt, hd, rg, gs', on, lf) S (vu ar 1 ea') (vu cp 1 cap') := by
  have hlt := H.lt hdm
  obtain ⟨h1', ⟨xs, h2⟩, h3, h4, h5, h6, h7⟩ := H
  obtain ⟨p1, p2, p3, p4, p5⟩ := id h7
  have d1 := p5 1 0 (by omega) (by omega) (by omega)
  refine ⟨hk _ _ h1' (by simp [xt]), ⟨xs, h2.kp (fun b e hb hc => hk b e hb (by omega))⟩, h3.kp (fun b e hb hc => hk b e hb (by omega)), hF, h5.kp (fun b e hb hc => hk b e hb (by omega)), fun s hs => ?_, p1, p2, hc0, fun s hs => ?_, p5.upd hlt (by omega) he⟩
  · have d2 := p5 1 (2 + s) (by omega) (by omega) (by omega)
    rw [vu_n _ _ (by omega)]
    exact (h6 s hs).kp (fun b e hb hc => hk b e hb (by omega))
  · rw [vu_n _ _ (by omega)]
    exact p4 s hs
def vw (S : Nat → sv_S) (k : Nat) (S' : sv_S) : Nat → sv_S := fun j => if j = k then S' else S j
/-- a subscriber has changed -/
theorem vo_at.setS {k ea' : Nat} {S' : sv_S} (H : vo_at G h x V S ar cp) (hkl : k < 3) (hdm : xd_h h sz) (hF : su_at G h1 (x + 8 + 4 * k) (x + 9 + 4 * k) (x + 10 + 4 * k) ea' (x + 11 + 4 * k) S') (he : er sz (ar (2 + k)) (cp (2 + k)) ea' (su_cap S')) (hc0 : su_cap S' ≤ 766) (hc1 : su_cur S' ≤ sv_hd V) (hk : ∀ b e, h b = some e → ¬ ((xt e = 7 ∧ b = x + 8 + 4 * k) ∨ (xt e = 100 ∧ b = x + 11 + 4 * k) ∨ (xt e = 8 ∧ b = x + 10 + 4 * k) ∨ (xt e = 103 ∧ b = ar (2 + k) ∧ cp (2 + k) ≠ 0)) → h1 b = some e) : vo_at G h1 x V (vw S k S') (vu ar (2 + k) ea') (vu cp (2 + k) (su_cap S')) := by
  have hlt := H.lt hdm
  obtain ⟨h1', ⟨xs, h2⟩, h3, h4, h5, h6, h7⟩ := H
  obtain ⟨p1, p2, p3, p4, p5⟩ := id h7
  have d0 := p5 (2 + k) 0 (by omega) (by omega) (by omega)
  have d1 := p5 (2 + k) 1 (by omega) (by omega) (by omega)
  refine ⟨hk _ _ h1' (by simp [xt]), ⟨xs, ?_⟩, h3.kp (fun b e hb hc => hk b e hb (by omega)), ?_, h5.kp (fun b e hb hc => hk b e hb (by omega)), fun s hs => ?_, p1, ?_, ?_, fun s hs => ?_, p5.upd hlt (by omega) he⟩
  · rw [vu_n _ _ (by omega), vu_n _ _ (by omega)]
    exact h2.kp (fun b e hb hc => hk b e hb (by omega))
  · rw [vu_n _ _ (by omega), vu_n _ _ (by omega)]
    exact h4.kp (fun b e hb hc => hk b e hb (by omega))
  · by_cases e : s = k
    · subst e
      rw [vu_s]
      unfold vw
      rw [if_pos rfl]
      exact hF
    · have d2 := p5 (2 + k) (2 + s) (by omega) (by omega) (by omega)
      rw [vu_n _ _ (by omega)]
      unfold vw
      rw [if_neg e]
      exact (h6 s hs).kp (fun b e hb hc => hk b e hb (by omega))
  · rw [vu_n _ _ (by omega)]; exact p2
  · rw [vu_n _ _ (by omega)]; exact p3
  · unfold vw
    by_cases e : s = k
    · subst e
      rw [vu_s, if_pos rfl]
      exact ⟨rfl, hc0, hc1⟩
    · rw [vu_n _ _ (by omega), if_neg e]
      exact p4 s hs
/-- a new cell beside it -/
theorem vo_at.new {e : xa_E} (H : vo_at G h x V S ar cp) (hd : xd_h h sz) : vo_at G (xa_up h sz e) x V S ar cp := by
  have hk : ∀ b e', h b = some e' → xa_up h sz e b = some e' := fun b e' hb => (xa_up_ne h e (by have := hd _ _ hb; omega)).trans hb
  obtain ⟨h1', ⟨xs, h2⟩, h3, h4, h5, h6, h7⟩ := H
  exact ⟨hk _ _ h1', ⟨xs, h2.kp (fun b e hb _ => hk b e hb)⟩, h3.kp (fun b e hb _ => hk b e hb), h4.kp (fun b e hb _ => hk b e hb), h5.kp (fun b e hb _ => hk b e hb), fun s hs => (h6 s hs).kp (fun b e hb _ => hk b e hb), h7⟩
theorem vo_at.kp0 (H : vo_at G h x V S ar cp) (hk : ∀ b e', h b = some e' → h1 b = some e') : vo_at G h1 x V S ar cp := by
  obtain ⟨h1', ⟨xs, h2⟩, h3, h4, h5, h6, h7⟩ := H
  exact ⟨hk _ _ h1', ⟨xs, h2.kp (fun b e hb _ => hk b e hb)⟩, h3.kp (fun b e hb _ => hk b e hb), h4.kp (fun b e hb _ => hk b e hb), h5.kp (fun b e hb _ => hk b e hb), fun s hs => (h6 s hs).kp (fun b e hb _ => hk b e hb), h7⟩
theorem frV_new {e : xa_E} (hd : xd_h h sz) : frV x h (xa_up h sz e) := fun b e' hb _ => (xa_up_ne h e (by have := hd _ _ hb; omega)).trans hb
end VO
section VP
variable {G : xa_G} {h : xa_H} {sz x : Nat} {V : sv_V} {S : Nat → sv_S} {ar cp : Nat → Nat}
theorem ct_V_spendWrite (H : vo_at G h x V S ar cp) : xa_T G mm_V_spendWrite 2 0 0 [.ref x] h sz (fun o h' z => o = .returned (some (.int (if (sv_spend V).1 = true then 1 else 0))) ∧ z = sz ∧ vo_at G h' x (sv_spend V).2 S ar cp ∧ ∀ b e, h b = some e → ¬ ((xt e = 0 ∧ b = x) ∨ (xt e = 8 ∧ b = x + 6) ∨ (xt e = 103 ∧ b = ar 1 ∧ cp 1 ≠ 0)) → h' b = some e) := by
  obtain ⟨fs, lt, hd, rg, gs, on, lf⟩ := V
  obtain ⟨h1, ⟨xs, h2⟩, h3, h4, h5, h6, h7⟩ := id H
  refine xt_o ok_V_spendWrite rfl rfl ?_
  refine xw_dom (fun hdm _ => ?_)
  refine xw_aloadR_n dd_V_spendWrite_0 rfl ?_
  refine xw_get fl_V_47 dd_V_spendWrite_1 h1 rfl ?_
  refine xw_if_ne 21 dd_V_spendWrite_4 (by decide) (fun hc => ?_) (fun hc => ?_)
  · have hc : ¬ lf = 0 := hc
    have hs : sv_spend (fs, lt, hd, rg, gs, on, lf) = (true, (fs, lt, hd, rg, gs, on, if 0 < lf then lf - 1 else lf)) := by
      unfold sv_spend
      simp only
      rw [if_neg hc]
    rw [hs]
    refine xw_aloadR_n dd_V_spendWrite_21 rfl ?_
    refine xw_get fl_V_47 dd_V_spendWrite_22 h1 rfl ?_
    refine xw_if_le 38 dd_V_spendWrite_25 (by decide) (fun hc2 => ?_) (fun hc2 => ?_)
    · have hc2 : lf ≤ 0 := hc2
      rw [if_neg (Int32.not_lt.mpr hc2)]
      refine xw_iconst 1 dd_V_spendWrite_38 (by decide) ?_
      exact xw_zret dd_V_spendWrite_39 rfl rfl ⟨rfl, rfl, H, fun _ _ hb _ => hb⟩
    · have hc2 : ¬ lf ≤ 0 := hc2
      rw [if_pos (Int32.not_le.mp hc2)]
      refine xw_aloadR_n dd_V_spendWrite_28 rfl ?_
      refine xw_dup dd_V_spendWrite_29 rfl ?_
      refine xw_get fl_V_47 dd_V_spendWrite_30 h1 rfl ?_
      refine xw_iconst 1 dd_V_spendWrite_33 (by decide) ?_
      refine xw_isub dd_V_spendWrite_34 ?_
      refine xw_putA fl_V_47 fz_V_47 (by decide) dd_V_spendWrite_35 h1 rfl h7.1 rfl rfl (fun h9 n9 f9 => ?_)
      refine xw_iconst 1 dd_V_spendWrite_38 (by decide) ?_
      have hk : ∀ b e, h b = some e → ¬ (xt e = 0 ∧ b = x) → h9 b = some e := fun b e hb hn => (f9 b (fun q => hn ⟨by subst q; rw [h1] at hb; cases hb; rfl, q⟩)).trans hb
      exact xw_zret dd_V_spendWrite_39 rfl rfl ⟨rfl, rfl, H.setX n9 hk, fun b e hb hn => hk b e hb (fun q => hn (Or.inl q))⟩
  · have hc : lf = 0 := hc
    have hs : sv_spend (fs, lt, hd, rg, gs, on, lf) = (false, (fs, lt, hd, rg, [], false, lf)) := by
      unfold sv_spend
      simp only
      rw [if_pos hc]
    rw [hs]
    refine xw_aloadR_n dd_V_spendWrite_7 rfl ?_
    refine xw_iconst 0 dd_V_spendWrite_8 (by decide) ?_
    refine xw_putA fl_V_43 fz_V_43 (by decide) dd_V_spendWrite_9 h1 rfl h7.1 rfl rfl (fun h9 n9 f9 => ?_)
    have hk : ∀ b e, h b = some e → ¬ (xt e = 0 ∧ b = x) → h9 b = some e := fun b e hb hn => (f9 b (fun q => hn ⟨by subst q; rw [h1] at hb; cases hb; rfl, q⟩)).trans hb
    have H9 : vo_at G h9 x (fs, lt, hd, rg, gs, false, lf) S ar cp := H.setX n9 hk
    obtain ⟨g1, ⟨ys, g2⟩, g3, g4, g5, g6, g7⟩ := id H9
    refine xw_aloadR_n dd_V_spendWrite_12 rfl ?_
    refine xw_get fl_V_28 dd_V_spendWrite_13 n9 rfl ?_
    have hHc : ∃ q, h9 (x + 5) = some (.inr (6, q)) := by
      obtain ⟨_, w, -⟩ := g4
      exact ⟨_, w⟩
    obtain ⟨q, hHc⟩ := hHc
    refine xw_dom (fun hdm9 _ => ?_)
    refine xw_cl0 (ct_H_forget g4) (iv_V_spendWrite_16 hHc) ok_H_forget rfl rfl rfl ?_ (fun _ _ _ q => by cases q.1)
    rintro v h10 z1 ⟨hv, rfl, u1, u2⟩
    cases hv
    obtain ⟨_, ⟨cw, ⟨-, -, gg, ⟨⟨_, c3⟩, c4, -⟩, -⟩, -⟩⟩ := id g4
    have hk2 : ∀ b e, h9 b = some e → ¬ ((xt e = 8 ∧ b = x + 6) ∨ (xt e = 103 ∧ b = ar 1 ∧ cp 1 ≠ 0) ∨ xt e = 5) → h10 b = some e := fun b e hb hn => (u2 b (fun w => by
        subst w
        rw [c3] at hb
        cases hb
        exact hn (Or.inl ⟨rfl, rfl⟩)) (by
        by_cases w : cp 1 = 0
        · exact Or.inr w
        · refine Or.inl (fun w2 => hn (Or.inr (Or.inl ⟨?_, w2, w⟩)))
          subst w2
          rw [c4] at hb
          cases hb
          rfl)).trans hb
    refine xw_iconst 0 dd_V_spendWrite_19 (by decide) ?_
    have H10 := H9.setG hdm9 u1 (Or.inl ⟨rfl, rfl⟩) g7.2.2.1 hk2
    have e1 : vu ar 1 (ar 1) = ar := funext (fun j => by unfold vu; split <;> simp_all)
    have e2 : vu cp 1 (cp 1) = cp := funext (fun j => by unfold vu; split <;> simp_all)
    rw [e1, e2] at H10
    refine xw_zret dd_V_spendWrite_20 rfl rfl ⟨rfl, rfl, H10, fun b e hb hn => ?_⟩
    refine (u2 b (fun w => ?_) ?_).trans (hk b e hb (fun q => hn (Or.inl q)))
    · subst w
      rw [hk _ e hb (fun q => hn (Or.inl q))] at c3
      cases c3
      exact hn (Or.inr (Or.inl ⟨rfl, rfl⟩))
    · by_cases w : cp 1 = 0
      · exact Or.inr w
      · refine Or.inl (fun w2 => hn (Or.inr (Or.inr ⟨?_, w2, w⟩)))
        subst w2
        rw [hk _ e hb (fun q => hn (Or.inl q))] at c4
        cases c4
        rfl
end VP
end
section
/-! NotedVolume: notes (by program: wip/whole/mk27.py) -/
theorem rn_app {h h1 : xa_H} {f : Nat → Option Nat} {hd sz ye : Nat} {rg : Nat → Nat → Int32} {e : sv_E} {r : Int32} (hN : rn_at h f hd rg) (hk : ∀ b e, h b = some e → (xt e = 3 ∨ xt e = 1) → h1 b = some e) (hn : h1 sz = some (nt_c ye r)) (hye : h1 ye = some (en_c e)) : rn_at h1 (va_up f (hd % 16) (some sz)) (hd + 1) (fun i => if i = hd % 16 then sv_item e r else rg i) := by
  intro s h2 h3
  by_cases es : s = hd
  · subst es
    exact ⟨sz, ye, e, r, va_up_self .., hn, hye, if_pos rfl⟩
  · have hm : s % 16 ≠ hd % 16 := by
      unfold rg_tl at h2
      split at h2 <;> omega
    have ht : rg_tl hd ≤ s := by
      unfold rg_tl at h2 ⊢
      split at h2 <;> split <;> omega
    obtain ⟨y, ey, e', r', w1, w2, w3, w4⟩ := hN s ht (by omega)
    exact ⟨y, ey, e', r', by rw [va_up_ne _ _ hm]; exact w1, hk _ _ w2 (Or.inl rfl), hk _ _ w3 (Or.inr rfl), (if_neg hm).trans w4⟩
section VN
variable {G : xa_G} {h h1 : xa_H} {sz x : Nat} {V : sv_V} {S : Nat → sv_S} {ar cp : Nat → Nat}
theorem vo_at.app {ye : Nat} {e : sv_E} {r : Int32} {f : Nat → Option Nat} (H : vo_at G h x V S ar cp) (hdm : xd_h h sz) (hR : rg_at h1 (x + 3) (x + 4) (sv_hd V + 1) (va_up f (sv_hd V % 16) (some sz))) (hR0 : rg_at h (x + 3) (x + 4) (sv_hd V) f) (hN : rn_at h f (sv_hd V) (sv_rg V)) (hn : h1 sz = some (nt_c ye r)) (hye : h ye = some (en_c e)) (hf : ∀ b, b ≠ x + 3 → b ≠ x + 4 → b ≠ sz → h1 b = h b) : vo_at G h1 x (sv_app V e r) S ar cp ∧ ∀ b e, h b = some e → ¬ ((xt e = 4 ∧ b = x + 3) ∨ (xt e = 104 ∧ b = x + 4)) → h1 b = some e := by
  obtain ⟨fs, lt, hd, rg, gs, on, lf⟩ := V
  have hk : ∀ b e, h b = some e → ¬ ((xt e = 4 ∧ b = x + 3) ∨ (xt e = 104 ∧ b = x + 4)) → h1 b = some e := by
    intro b e hb hne
    refine (hf b (fun q => hne (Or.inl ⟨?_, q⟩)) (fun q => hne (Or.inr ⟨?_, q⟩)) (by have := hdm _ _ hb; omega)).trans hb
    · subst q
      rw [hR0.1] at hb
      cases hb
      rfl
    · subst q
      rw [hR0.2.1] at hb
      cases hb
      rfl
  refine ⟨H.setR (hd' := hd + 1) ⟨_, hR, rn_app hN (fun b e hb hc => hk b e hb (by omega)) hn (hk _ _ hye (by simp [xt]))⟩ (by omega) hk, hk⟩
theorem sp_len (V : sv_V) : (sv_gs (sv_spend V).2).length ≤ (sv_gs V).length ∧ sv_hd (sv_spend V).2 = sv_hd V ∧ sv_fs (sv_spend V).2 = sv_fs V := by
  obtain ⟨fs, lt, hd, rg, gs, on, lf⟩ := V
  unfold sv_spend
  simp only
  split
  · exact ⟨Nat.zero_le _, rfl, rfl⟩
  · exact ⟨Nat.le_refl _, rfl, rfl⟩
theorem eg_len (V : sv_V) (g : Int32 × Int32) : (sv_gs (sv_endG V g)).length ≤ (sv_gs V).length ∧ sv_hd (sv_endG V g) = sv_hd V + 1 ∧ sv_fs (sv_endG V g) = sv_fs V := ⟨st_len (sv_gs V) g.1, rfl, rfl⟩
theorem cg_len (V : sv_V) (g : Int32 × Int32) : (sv_gs (sv_closeG V g).2).length ≤ (sv_gs V).length ∧ sv_hd (sv_closeG V g).2 ≤ sv_hd V + 1 ∧ sv_fs (sv_closeG V g).2 = sv_fs V := by
  have h1 := sp_len V
  have h2 := eg_len (sv_spend V).2 g
  unfold sv_closeG
  split
  · refine ⟨?_, ?_, ?_⟩
    · show (sv_gs (sv_endG (sv_spend V).2 g)).length ≤ _; omega
    · show sv_hd (sv_endG (sv_spend V).2 g) ≤ _; omega
    · show sv_fs (sv_endG (sv_spend V).2 g) = _; rw [h2.2.2, h1.2.2]
  · refine ⟨?_, ?_, ?_⟩
    · show (sv_gs (sv_spend V).2).length ≤ _; omega
    · show sv_hd (sv_spend V).2 ≤ _; omega
    · exact h1.2.2
theorem sv_open_way (V : sv_V) (f : Int32) : sv_open V f = match sv_way (sv_gs V) f with
    | none => (true, V)
    | some g => sv_closeG V g := by
  unfold sv_open sv_way
  split
  · rfl
  · rfl
/-- an end of a call on the volume that the subscribers don't see -/
abbrev vq (G : xa_G) (h : xa_H) (x : Nat) (V : sv_V) (S : Nat → sv_S) (v : Option Value) : Outcome → xa_H → Nat → Prop := fun o h' _ => o = .returned v ∧ vs G h' x V S ∧ frV x h h'
theorem ct_V_endGathering {y : Nat} {g : Int32 × Int32} (H : vs G h x V S) (hy : h y = some (gt_d g)) (hh : sv_hd V < 900000) : xa_T G mm_V_endGathering 4 2 7 [.ref x, .ref y] h sz (vq G h x (sv_endG V g) S none) := by
  obtain ⟨ar, cp, H⟩ := H
  obtain ⟨h1, ⟨xs, h2⟩, h3, h4, h5, h6, h7⟩ := id H
  refine xt_o ok_V_endGathering rfl rfl ?_
  refine xw_dom (fun hdm hBz => ?_)
  have tail : ∀ (h9 : xa_H) (z9 ye : Nat), vo_at G h9 x V S ar cp → (∀ b e, h b = some e → h9 b = some e) → h9 ye = some (en_c ((sv_find (sv_fs V) g.1).getD (g.1, 0, 0, 0, 0))) → xa_W G mm_V_endGathering 4 1 2 31 [some (.ref x), some (.ref y), some (.int g.1), some (.ref ye)] [] h9 z9 (vq G h x (sv_endG V g) S none) := by
    intro h9 z9 ye H9 hk9 hye
    obtain ⟨g1, ⟨ys, g2⟩, ⟨f, g3a, g3b⟩, g4, g5, g6, g7⟩ := id H9
    refine xw_dom (fun hdm9 _ => ?_)
    refine xw_aloadR_n dd_V_endGathering_31 rfl ?_
    refine xw_get fl_V_21 dd_V_endGathering_32 g1 rfl ?_
    refine xw_aloadR_n dd_V_endGathering_35 rfl ?_
    refine xw_aloadR_n dd_V_endGathering_36 rfl ?_
    refine xw_get fl_V_281 dd_V_endGathering_37 (hk9 _ _ hy) rfl ?_
    refine xw_bipush 64 dd_V_endGathering_40 (by decide) ?_
    refine xw_ior dd_V_endGathering_42 ?_
    refine xw_less (kc' := 0 + 1) (ks' := 0 + 2) (by decide) (by decide) ?_
    have hBx := g7.1
    refine xw_cl (ct_R_append g3a (by omega) (by omega) hh) (iv_V_endGathering_43 g3a.1) ok_R_append rfl rfl rfl ?_ (fun _ _ _ q => by cases q.1)
    rintro v h10 z10 ⟨hv, rfl, u1, u2, u3⟩
    cases hv
    obtain ⟨H10, hk10⟩ := H9.app hdm9 u1 g3a g3b u2 hye u3
    obtain ⟨fs, lt, hd, rg, gs, on, lf⟩ := V
    obtain ⟨w1, ⟨ws, w2⟩, w3, w4, w5, w6, w7⟩ := id H10
    refine xw_dom (fun hdm10 _ => ?_)
    refine xw_aloadR_n dd_V_endGathering_46 rfl ?_
    refine xw_get fl_V_28 dd_V_endGathering_47 w1 rfl ?_
    refine xw_iload_n dd_V_endGathering_50 rfl ?_
    obtain ⟨_, ⟨hT, ⟨-, -, gg, ⟨⟨_, c3⟩, c4, -⟩, -⟩, -⟩⟩ := id w4
    refine xw_cl0 (ct_H_take w4) (iv_V_endGathering_51 hT) ok_H_take rfl rfl rfl ?_ (fun _ _ _ q => by cases q.1)
    rintro v h11 z11 ⟨hv, rfl, q1, q2⟩
    cases hv
    have hk11 : ∀ b e, h10 b = some e → ¬ ((xt e = 8 ∧ b = x + 6) ∨ (xt e = 103 ∧ b = ar 1 ∧ cp 1 ≠ 0) ∨ xt e = 5) → h11 b = some e := fun b e hb hn => (q2 b (fun w => by
        subst w
        rw [c3] at hb
        cases hb
        exact hn (Or.inl ⟨rfl, rfl⟩)) (by
        by_cases w : cp 1 = 0
        · exact Or.inr w
        · refine Or.inl (fun w2 => hn (Or.inr (Or.inl ⟨?_, w2, w⟩)))
          subst w2
          rw [c4] at hb
          cases hb
          rfl)).trans hb
    have H11 := H10.setG hdm10 q1 (Or.inl ⟨rfl, rfl⟩) w7.2.2.1 hk11
    refine xw_vret dd_V_endGathering_54 rfl ⟨rfl, ⟨_, _, H11⟩, fun b e hb hp => ?_⟩
    exact hk11 b e (hk10 b e (hk9 b e hb) (by omega)) (by omega)
  refine xw_aloadR_n dd_V_endGathering_0 rfl ?_
  refine xw_get fl_V_276 dd_V_endGathering_1 hy rfl ?_
  refine xw_istore_n dd_V_endGathering_4 (by decide) ?_
  refine xw_aloadR_n dd_V_endGathering_5 rfl ?_
  refine xw_get fl_V_14 dd_V_endGathering_6 h1 rfl ?_
  refine xw_iload_n dd_V_endGathering_9 rfl ?_
  refine xw_cl0 (ct_F_entryOf h2) (iv_V_endGathering_10 h2.1) ok_F_entryOf rfl rfl rfl ?_ (fun _ _ _ q => by cases q.2.2.choose_spec.1)
  rintro v h sz ⟨rfl, rfl, r, hv, hr⟩
  cases hv
  rcases hr with ⟨w1, rfl⟩ | ⟨e, ye, w1, rfl, w3⟩
  · refine xw_astore_n (r := none) dd_V_endGathering_13 (by decide) ?_
    refine xw_aload_n (r := none) dd_V_endGathering_14 rfl ?_
    refine xw_ifnonnullN dd_V_endGathering_15 ?_
    refine xw_less (kc' := 1 + 1) (ks' := 2 + 5) (by decide) (by decide) ?_
    refine xw_newA nw_V_74 dd_V_endGathering_18 (fun h8 n8 f8 => ?_)
    refine xw_dup dd_V_endGathering_21 rfl ?_
    refine xw_iload_n dd_V_endGathering_22 rfl ?_
    refine xw_iconst 0 dd_V_endGathering_23 (by decide) ?_
    refine xw_iconst 0 dd_V_endGathering_24 (by decide) ?_
    refine xw_iconst 0 dd_V_endGathering_25 (by decide) ?_
    refine xw_iconst 0 dd_V_endGathering_26 (by decide) ?_
    refine xw_cl0 (ct_E_init n8 hBz) iv_V_endGathering_27 ok_E_init rfl rfl rfl ?_ (fun _ _ _ q => by cases q.1)
    rintro v h9 z9 ⟨hv, rfl, n9, f9⟩
    cases hv
    refine xw_astoreR_n dd_V_endGathering_30 (by decide) ?_
    have hk9 : ∀ b e, h b = some e → h9 b = some e := fun b e hb => by
      have := hdm _ _ hb
      exact (f9 b (by omega)).trans ((f8 b (by omega)).trans hb)
    refine tail h9 (sz + 1) sz (H.kp0 hk9) hk9 ?_
    have e0 : sv_find (sv_fs V) g.1 = none := w1
    rw [e0]
    exact n9
  · refine xw_astore_n (r := some ye) dd_V_endGathering_13 (by decide) ?_
    refine xw_aloadR_n dd_V_endGathering_14 rfl ?_
    refine xw_ifnonnullR 31 dd_V_endGathering_15 (by decide) ?_
    refine xw_less (kc' := 1) (ks' := 2) (by decide) (by decide) ?_
    refine tail h sz ye H (fun _ _ hb => hb) ?_
    have e0 : sv_find (sv_fs V) g.1 = some e := w1
    rw [e0]
    exact w3
theorem vs.cell (H : vs G h x V S) : h x = some (vo_c x (sv_lt V) (sv_on V) (sv_lf V)) := by
  obtain ⟨_, _, H, -⟩ := H
  exact H
theorem ct_V_writeClosingNote {y : Nat} {g : Int32 × Int32} (H : vs G h x V S) (hy : h y = some (gt_d g)) (hh : sv_hd V < 900000) : xa_T G mm_V_writeClosingNote 5 2 7 [.ref x, .ref y] h sz (vq G h x (sv_closeG V g).2 S (some (.int (if (sv_closeG V g).1 = true then 1 else 0)))) := by
  obtain ⟨ar, cp, H⟩ := H
  refine xt_o ok_V_writeClosingNote rfl rfl ?_
  refine xw_aloadR_n dd_V_writeClosingNote_0 rfl ?_
  refine xw_cl0 (ct_V_spendWrite H) (iv_V_writeClosingNote_1 H.1) ok_V_spendWrite rfl rfl rfl ?_ (fun _ _ _ q => by cases q.1)
  rintro v h1 z1 ⟨hv, rfl, u1, u2⟩
  cases hv
  by_cases hs : (sv_spend V).1 = true
  · have hc : sv_closeG V g = (true, sv_endG (sv_spend V).2 g) := by
      unfold sv_closeG
      rw [if_pos hs]
    rw [hc, if_pos hs]
    refine xw_if_ne 9 dd_V_writeClosingNote_4 (by decide) (fun hc => ?_) (fun hc => absurd hc (by decide))
    refine xw_aloadR_n dd_V_writeClosingNote_9 rfl ?_
    refine xw_aloadR_n dd_V_writeClosingNote_10 rfl ?_
    refine xw_less (kc' := 0 + 2) (ks' := 0 + 7) (by decide) (by decide) ?_
    refine xw_cl (ct_V_endGathering ⟨ar, cp, u1⟩ (u2 _ _ hy (by simp [xt])) (by rw [(sp_len V).2.1]; exact hh)) (iv_V_writeClosingNote_11 u1.1) ok_V_endGathering rfl rfl rfl ?_ (fun _ _ _ q => by cases q.1)
    rintro v h2 z2 ⟨hv, q1, q2⟩
    cases hv
    refine xw_iconst 1 dd_V_writeClosingNote_14 (by decide) ?_
    exact xw_zret dd_V_writeClosingNote_15 rfl rfl ⟨rfl, q1, fun b e hb hp => q2 b e (u2 b e hb (by have := u1.2.2.2.2.2.2.1; omega)) hp⟩
  · have hc : sv_closeG V g = (false, (sv_spend V).2) := by
      unfold sv_closeG
      rw [if_neg hs]
    rw [hc, if_neg hs]
    refine xw_if_ne 9 dd_V_writeClosingNote_4 (by decide) (fun hc => absurd rfl hc) (fun hc => ?_)
    refine xw_iconst 0 dd_V_writeClosingNote_7 (by decide) ?_
    exact xw_zret dd_V_writeClosingNote_8 rfl rfl ⟨rfl, ⟨ar, cp, u1⟩, fun b e hb hp => u2 b e hb (by omega)⟩
theorem ct_V_writeChangeNote {ye : Nat} {e : sv_E} {r : Int32} (H : vs G h x V S) (hye : h ye = some (en_c e)) (hh : sv_hd V < 800000) (hg : (sv_gs V).length ≤ 15) : xa_T G mm_V_writeChangeNote 8 5 33 [.ref x, .ref ye, .int r] h sz (vq G h x (sv_chg V e r).2 S (some (.int (if (sv_chg V e r).1 = true then 1 else 0)))) := by
  obtain ⟨ar, cp, H⟩ := H
  obtain ⟨h1, ⟨xs, h2⟩, h3, h4, h5, h6, h7⟩ := id H
  have tail : ∀ (h9 : xa_H) (z9 : Nat) (V1 : sv_V) (ov : Value), sv_open V e.1 = (true, V1) → vs G h9 x V1 S → frV x h h9 → sv_hd V1 ≤ sv_hd V + 1 → (sv_gs V1).length ≤ 15 → xa_W G mm_V_writeChangeNote 8 3 26 26 [some (.ref x), some (.ref ye), some (.int r), some ov] [] h9 z9 (vq G h x (sv_chg V e r).2 S (some (.int (if (sv_chg V e r).1 = true then 1 else 0)))) := by
    intro h9 z9 V1 ov ho H9 hf9 hh1 hg1
    have hchg : sv_chg V e r = sv_note V1 e r := by
      unfold sv_chg
      rw [ho]
      rfl
    rw [hchg]
    obtain ⟨ar9, cp9, H9⟩ := H9
    refine xw_aloadR_n dd_V_writeChangeNote_26 rfl ?_
    refine xw_cl0 (ct_V_spendWrite H9) (iv_V_writeChangeNote_27 H9.1) ok_V_spendWrite rfl rfl rfl ?_ (fun _ _ _ q => by cases q.1)
    rintro v h10 z10 ⟨hv, rfl, u1, u2⟩
    cases hv
    have hf10 : frV x h h10 := fun b e hb hp => u2 b e (hf9 b e hb hp) (by omega)
    have sl := sp_len V1
    by_cases hs : (sv_spend V1).1 = true
    · have hc : sv_note V1 e r = (true, sv_app (sv_setG (sv_spend V1).2 (sv_gather (sv_gs (sv_spend V1).2) e.1 r).2) e (sv_gather (sv_gs (sv_spend V1).2) e.1 r).1) := by
        unfold sv_note
        rw [if_pos hs]
      rw [hc, if_pos hs]
      have hye10 := hf10 _ _ hye (Or.inl rfl)
      generalize (sv_spend V1).2 = V2 at u1 sl ⊢
      obtain ⟨fs, lt, hd, rg, gs, on, lf⟩ := V2
      have sl1 : gs.length ≤ 15 := by
        have : gs.length ≤ (sv_gs V1).length := sl.1
        omega
      have sl2 : hd < 900000 := by
        have : hd = sv_hd V1 := sl.2.1
        omega
      obtain ⟨g1, ⟨ys, g2⟩, g3, g4, g5, g6, g7⟩ := id u1
      have hBx := g7.1
      refine xw_if_ne 35 dd_V_writeChangeNote_30 (by decide) (fun hc => ?_) (fun hc => absurd hc (by decide))
      refine xw_aloadR_n dd_V_writeChangeNote_35 rfl ?_
      refine xw_get fl_V_21 dd_V_writeChangeNote_36 g1 rfl ?_
      refine xw_aloadR_n dd_V_writeChangeNote_39 rfl ?_
      refine xw_aloadR_n dd_V_writeChangeNote_40 rfl ?_
      refine xw_get fl_V_28 dd_V_writeChangeNote_41 g1 rfl ?_
      refine xw_aloadR_n dd_V_writeChangeNote_44 rfl ?_
      refine xw_get fl_V_83 dd_V_writeChangeNote_45 hye10 rfl ?_
      refine xw_iload_n dd_V_writeChangeNote_48 rfl ?_
      refine xw_dom (fun hdm10 _ => ?_)
      obtain ⟨_, ⟨hT, ⟨-, -, gg, ⟨⟨_, c3⟩, c4, -⟩, -⟩, -⟩⟩ := id g4
      refine xw_less (kc' := 1 + 2) (ks' := 2 + 24) (by decide) (by decide) ?_
      refine xw_cl (ct_H_gather g4 sl1 g7.2.2.1) (iv_V_writeChangeNote_49 hT) ok_H_gather rfl rfl rfl ?_ (fun _ _ _ q => by cases q.1)
      rintro v h11 z11 ⟨hv, ⟨ea', cap', q1, q2, q3⟩, q4, q5⟩
      cases hv
      have hk11 : ∀ b e, h10 b = some e → ¬ ((xt e = 8 ∧ b = x + 6) ∨ (xt e = 103 ∧ b = ar9 1 ∧ cp9 1 ≠ 0) ∨ xt e = 5) → h11 b = some e := fun b e hb hn => q5 b e hb ⟨fun w => by
          subst w
          rw [c3] at hb
          cases hb
          exact hn (Or.inl ⟨rfl, rfl⟩), by
          by_cases w : cp9 1 = 0
          · exact Or.inr w
          · refine Or.inl (fun w2 => hn (Or.inr (Or.inl ⟨?_, w2, w⟩)))
            subst w2
            rw [c4] at hb
            cases hb
            rfl, fun q w => hn (Or.inr (Or.inr (by rw [w]; rfl)))⟩
      have H11 := u1.setG hdm10 q1 q3 q2 hk11
      obtain ⟨w1, ⟨ws, w2⟩, ⟨f, w3a, w3b⟩, w4, w5, w6, w7⟩ := id H11
      have hye11 := hk11 _ _ hye10 (by simp [xt])
      refine xw_dom (fun hdm11 _ => ?_)
      refine xw_less (kc' := 0 + 1) (ks' := 0 + 2) (by decide) (by decide) ?_
      refine xw_cl (ct_R_append w3a (by omega) (by omega) sl2) (iv_V_writeChangeNote_52 w3a.1) ok_R_append rfl rfl rfl ?_ (fun _ _ _ q => by cases q.1)
      rintro v h12 z12 ⟨hv, rfl, t1, t2, t3⟩
      cases hv
      obtain ⟨H12, hk12⟩ := H11.app hdm11 t1 w3a w3b t2 hye11 t3
      refine xw_iconst 1 dd_V_writeChangeNote_55 (by decide) ?_
      exact xw_zret dd_V_writeChangeNote_56 rfl rfl ⟨rfl, ⟨_, _, H12⟩, fun b e hb hp => hk12 b e (hk11 b e (hf10 b e hb hp) (by omega)) (by omega)⟩
    · have hc : sv_note V1 e r = (false, (sv_spend V1).2) := by
        unfold sv_note
        rw [if_neg hs]
      rw [hc, if_neg hs]
      refine xw_if_ne 35 dd_V_writeChangeNote_30 (by decide) (fun hc => absurd rfl hc) (fun hc => ?_)
      refine xw_iconst 0 dd_V_writeChangeNote_33 (by decide) ?_
      exact xw_zret dd_V_writeChangeNote_34 rfl rfl ⟨rfl, ⟨_, _, u1⟩, hf10⟩
  refine xt_o ok_V_writeChangeNote rfl rfl ?_
  refine xw_aloadR_n dd_V_writeChangeNote_0 rfl ?_
  refine xw_get fl_V_28 dd_V_writeChangeNote_1 h1 rfl ?_
  refine xw_aloadR_n dd_V_writeChangeNote_4 rfl ?_
  refine xw_get fl_V_83 dd_V_writeChangeNote_5 hye rfl ?_
  obtain ⟨_, hT, -⟩ := id h4
  refine xw_cl0 (ct_H_inTheWayOf h4) (iv_V_writeChangeNote_8 hT) ok_H_inTheWayOf rfl rfl rfl ?_ (fun _ _ _ q => by cases q.2.2.choose_spec.1)
  rintro v h sz ⟨rfl, rfl, rr, hv, hr⟩
  cases hv
  have how := sv_open_way V e.1
  rcases hr with ⟨w1, rfl⟩ | ⟨g, y, w1, rfl, w3⟩
  · rw [w1] at how
    refine xw_astore_n (r := none) dd_V_writeChangeNote_11 (by decide) ?_
    refine xw_aload_n (r := none) dd_V_writeChangeNote_12 rfl ?_
    refine xw_ifnullN 26 dd_V_writeChangeNote_13 (by decide) ?_
    refine xw_less (kc' := 3) (ks' := 26) (by decide) (by decide) ?_
    exact tail h sz V .null how ⟨ar, cp, H⟩ frV.refl (by omega) hg
  · rw [w1] at how
    refine xw_astore_n (r := some y) dd_V_writeChangeNote_11 (by decide) ?_
    refine xw_aloadR_n dd_V_writeChangeNote_12 rfl ?_
    refine xw_ifnullR dd_V_writeChangeNote_13 ?_
    refine xw_aloadR_n dd_V_writeChangeNote_16 rfl ?_
    refine xw_aloadR_n dd_V_writeChangeNote_17 rfl ?_
    refine xw_less (kc' := 3 + 2) (ks' := 26 + 7) (by decide) (by decide) ?_
    refine xw_cl (ct_V_writeClosingNote ⟨ar, cp, H⟩ w3 (by omega)) (iv_V_writeChangeNote_18 h1) ok_V_writeClosingNote rfl rfl rfl ?_ (fun _ _ _ q => by cases q.1)
    rintro v h2 z2 ⟨hv, q1, q2⟩
    cases hv
    have cl := cg_len V g
    by_cases hs : (sv_closeG V g).1 = true
    · rw [if_pos hs]
      refine xw_if_ne 26 dd_V_writeChangeNote_21 (by decide) (fun hc => ?_) (fun hc => absurd hc (by decide))
      refine tail h2 z2 (sv_closeG V g).2 (.ref y) ?_ q1 q2 cl.2.1 (by omega)
      rw [how]
      exact Prod.ext hs rfl
    · rw [if_neg hs]
      have hs' : (sv_closeG V g).1 = false := by simpa using hs
      have hchg : sv_chg V e r = (false, (sv_closeG V g).2) := by
        unfold sv_chg
        rw [how]
        simp only [hs']
        rfl
      rw [hchg]
      refine xw_if_ne 26 dd_V_writeChangeNote_21 (by decide) (fun hc => absurd rfl hc) (fun hc => ?_)
      refine xw_less (kc' := 0) (ks' := 0) (by decide) (by decide) ?_
      refine xw_iconst 0 dd_V_writeChangeNote_24 (by decide) ?_
      exact xw_zret dd_V_writeChangeNote_25 rfl rfl ⟨rfl, q1, q2⟩
def sv_setF (V : sv_V) (fs' : List sv_E) : sv_V := match V with
  | (_, lt, hd, rg, gs, on, lf) => (fs', lt, hd, rg, gs, on, lf)
/-- the last note of a change, then the change -/
def sv_do (V : sv_V) (e : sv_E) (r : Int32) : Bool × sv_V := if (sv_chg V e r).1 = true then if (sv_spend (sv_chg V e r).2).1 = true then (true, sv_setF (sv_spend (sv_chg V e r).2).2 (sv_put (sv_fs (sv_spend (sv_chg V e r).2).2) 20 e)) else (false, (sv_spend (sv_chg V e r).2).2) else (false, (sv_chg V e r).2)
theorem gro28 {fs : List sv_E} {cap : Nat} {e : sv_E} (h : cap ≤ 28) : (if sv_gro fs 20 cap e = true then al_cap cap else 0) ≤ 28 ∧ (if sv_gro fs 20 cap e = true then al_cap cap else cap) ≤ 28 := by
  by_cases hg : sv_gro fs 20 cap e = true
  · rw [if_pos hg, if_pos hg]
    unfold sv_gro at hg
    simp at hg
    unfold al_cap
    split <;> omega
  · rw [if_neg hg, if_neg hg]
    omega
theorem vs_putF {ye z : Nat} {e : sv_E} {o : Outcome} {xs : List Nat} (H : vo_at G h x V S ar cp) (hdm : xd_h h sz) (h2 : ft_at G h (x + 1) (x + 2) (ar 0) (cp 0) (nI 20) xs (sv_fs V)) (q : xq_fp G h sz (x + 1) (x + 2) (ar 0) (cp 0) (nI 20) (sv_put (sv_fs V) 20 e) (sv_gro (sv_fs V) 20 (cp 0) e) o h1 z) : vs G h1 x (sv_setF V (sv_put (sv_fs V) 20 e)) S ∧ frV x h h1 := by
  obtain ⟨fs, lt, hd, rg, gs, on, lf⟩ := V
  obtain ⟨q1, ⟨xs', q2⟩, q3, q4, q5⟩ := q
  obtain ⟨-, ⟨-, -, gg, ⟨⟨_, c3⟩, c4, -⟩, -⟩, -⟩ := h2
  have hk : ∀ b e, h b = some e → ¬ ((xt e = 8 ∧ b = x + 2) ∨ (xt e = 103 ∧ b = ar 0 ∧ cp 0 ≠ 0)) → h1 b = some e := fun b e hb hn => (q4 b (fun w => by
      subst w
      rw [c3] at hb
      cases hb
      exact hn (Or.inl ⟨rfl, rfl⟩)) (by
      by_cases w : cp 0 = 0
      · exact Or.inr w
      · refine Or.inl (fun w2 => hn (Or.inr ⟨?_, w2, w⟩))
        subst w2
        rw [c4] at hb
        cases hb
        rfl) (by have := hdm _ _ hb; omega)).trans hb
  refine ⟨⟨_, _, H.setF hdm q2 ?_ (gro28 H.2.2.2.2.2.2.2.1).2 hk⟩, fun b e hb hp => hk b e hb (by omega)⟩
  unfold er
  split
  · exact Or.inr (Nat.le_refl _)
  · exact Or.inl ⟨rfl, rfl⟩
theorem ct_V_noteAndDo {ye : Nat} {e : sv_E} {r : Int32} (H : vs G h x V S) (hye : h ye = some (en_c e)) (hh : sv_hd V < 800000) (hg : (sv_gs V).length ≤ 15) : xa_T G mm_V_noteAndDo 9 6 61 [.ref x, .ref ye, .int r] h sz (vq G h x (sv_do V e r).2 S (some (.int (if (sv_do V e r).1 = true then 1 else 0)))) := by
  refine xt_o ok_V_noteAndDo rfl rfl ?_
  refine xw_aloadR_n dd_V_noteAndDo_0 rfl ?_
  refine xw_aloadR_n dd_V_noteAndDo_1 rfl ?_
  refine xw_iload_n dd_V_noteAndDo_2 rfl ?_
  refine xw_less (kc' := 1 + 5) (ks' := 28 + 33) (by decide) (by decide) ?_
  refine xw_cl (ct_V_writeChangeNote H hye hh hg) (iv_V_noteAndDo_3 H.cell) ok_V_writeChangeNote rfl rfl rfl ?_ (fun _ _ _ q => by cases q.1)
  rintro v h1 z1 ⟨hv, q1, q2⟩
  cases hv
  by_cases hc : (sv_chg V e r).1 = true
  · rw [if_pos hc]
    refine xw_if_eq 16 dd_V_noteAndDo_6 (by decide) (fun hq => absurd hq (by decide)) (fun hq => ?_)
    obtain ⟨ar, cp, H1⟩ := q1
    refine xw_aloadR_n dd_V_noteAndDo_9 rfl ?_
    refine xw_cl0 (ct_V_spendWrite H1) (iv_V_noteAndDo_10 H1.1) ok_V_spendWrite rfl rfl rfl ?_ (fun _ _ _ q => by cases q.1)
    rintro v h2 z2 ⟨hv, rfl, u1, u2⟩
    cases hv
    have hf2 : frV x h h2 := fun b e hb hp => u2 b e (q2 b e hb hp) (by omega)
    by_cases hs : (sv_spend (sv_chg V e r).2).1 = true
    · have hd : sv_do V e r = (true, sv_setF (sv_spend (sv_chg V e r).2).2 (sv_put (sv_fs (sv_spend (sv_chg V e r).2).2) 20 e)) := by
        unfold sv_do
        rw [if_pos hc, if_pos hs]
      rw [hd, if_pos hs]
      refine xw_if_ne 18 dd_V_noteAndDo_13 (by decide) (fun hq => ?_) (fun hq => absurd hq (by decide))
      obtain ⟨g1, ⟨ys, g2⟩, g3, g4, g5, g6, g7⟩ := id u1
      refine xw_aloadR_n dd_V_noteAndDo_18 rfl ?_
      refine xw_get fl_V_14 dd_V_noteAndDo_19 g1 rfl ?_
      refine xw_aloadR_n dd_V_noteAndDo_22 rfl ?_
      refine xw_dom (fun hdm2 _ => ?_)
      refine xw_less (kc' := 0 + 1) (ks' := 0 + (if sv_gro (sv_fs (sv_spend (sv_chg V e r).2).2) 20 (cp 0) e = true then al_cap (cp 0) else 0)) (by decide) (by have := (gro28 (fs := sv_fs (sv_spend (sv_chg V e r).2).2) (e := e) g7.2.1).1; omega) ?_
      refine xw_cl (ct_F_put g2 (hf2 _ _ hye (Or.inl rfl)) (by decide) (by have := g7.2.1; omega)) (iv_V_noteAndDo_23 g2.1) ok_F_put rfl rfl rfl ?_ (fun _ _ _ q => by cases q.1)
      rintro v h3 z3 q
      have hv := q.1
      cases hv
      obtain ⟨t1, t2⟩ := vs_putF (ye := ye) u1 hdm2 g2 q
      refine xw_iconst 1 dd_V_noteAndDo_26 (by decide) ?_
      exact xw_zret dd_V_noteAndDo_27 rfl rfl ⟨rfl, t1, hf2.trans t2⟩
    · have hd : sv_do V e r = (false, (sv_spend (sv_chg V e r).2).2) := by
        unfold sv_do
        rw [if_pos hc, if_neg hs]
      rw [hd, if_neg hs]
      refine xw_if_ne 18 dd_V_noteAndDo_13 (by decide) (fun hq => absurd rfl hq) (fun hq => ?_)
      refine xw_iconst 0 dd_V_noteAndDo_16 (by decide) ?_
      exact xw_zret dd_V_noteAndDo_17 rfl rfl ⟨rfl, ⟨_, _, u1⟩, hf2⟩
  · have hd : sv_do V e r = (false, (sv_chg V e r).2) := by
      unfold sv_do
      rw [if_neg hc]
    rw [hd, if_neg hc]
    refine xw_if_eq 16 dd_V_noteAndDo_6 (by decide) (fun hq => ?_) (fun hq => absurd rfl hq)
    refine xw_iconst 0 dd_V_noteAndDo_16 (by decide) ?_
    exact xw_zret dd_V_noteAndDo_17 rfl rfl ⟨rfl, q1, q2⟩
end VN
end
section
/-! NotedVolume: checks (by program: wip/whole/mk28.py) -/
/-- an answer, the heap as it was; or, where the code isn't 0, an exception of the class that it tells -/
def xq_code (h : xa_H) (sz c : Nat) (cs : Nat → Nat) (v : Option Value) : Outcome → xa_H → Nat → Prop := fun o h' z => (c = 0 ∧ o = .returned v ∧ h' = h ∧ z = sz) ∨ (c ≠ 0 ∧ o = .threw sz ∧ h' = xa_up h sz (.inr (cs c, [])) ∧ z = sz + 1)
theorem xw_chk {G : xa_G} {M M' : xa_M} {dp dp' kc ks kc' ks' pc c : Nat} {cs : Nat → Nat} {v : Option Value} {L : List (Option Value)} {stk as rest : List Value} {h : xa_H} {sz : Nat} {Q : Outcome → xa_H → Nat → Prop} (hT : xa_T G M' dp' kc' ks' as h sz (xq_code h sz c cs v)) (hI : xa_inv G M M' pc stk as rest h) (hO : xa_O M') (hdp : Nat.ble (dp' + 1) dp = true) (hml : Nat.ble M'.2.2.1 100 = true) (hst : Nat.ble ((rest.map fun v => v.category).sum) 8 = true) (ho : xa_out M pc)
    (hret : c = 0 → xa_W G M dp kc ks (pc + 3) L (v.toList ++ rest) h sz Q) (hthr : c ≠ 0 → Q (.threw sz) (xa_up h sz (.inr (cs c, []))) (sz + 1)) : xa_W G M dp (kc + kc') (ks + ks') pc L stk h sz Q := by
  refine xw_cl hT hI hO hdp hml hst ?_ ?_
  · rintro v' h' z (⟨c0, hv, rfl, rfl⟩ | ⟨c0, hv, -, -⟩)
    · cases hv
      exact hret c0
    · cases hv
  · rintro a h' z (⟨c0, hv, -, -⟩ | ⟨c0, hv, rfl, rfl⟩)
    · cases hv
    · cases hv
      exact xx_out ho (hthr c0)
/-- a call on the volume ends: a value, or an exception of the class that the code tells -/
def vqc (G : xa_G) (h : xa_H) (x c : Nat) (cs : Nat → Nat) (v : Option Value) (V : sv_V) (S : Nat → sv_S) : Outcome → xa_H → Nat → Prop := fun o h' _ => vs G h' x V S ∧ frV x h h' ∧ if c = 0 then o = .returned v else ∃ a, o = .threw a ∧ h' a = some (.inr (cs c, []))
theorem vqc.thr {G : xa_G} {h h1 : xa_H} {x c sz ci z : Nat} {cs : Nat → Nat} {v : Option Value} {V : sv_V} {S : Nat → sv_S} (H : vs G h1 x V S) (hf : frV x h h1) (hd : xd_h h1 sz) (hc : c ≠ 0) (hci : cs c = ci) : vqc G h x c cs v V S (.threw sz) (xa_up h1 sz (.inr (ci, []))) z := by
  obtain ⟨ar, cp, H⟩ := H
  refine ⟨⟨ar, cp, H.new hd⟩, hf.trans (frV_new hd), ?_⟩
  rw [if_neg hc, hci]
  exact ⟨sz, rfl, xa_up_eq ..⟩
theorem vqc.ret {G : xa_G} {h h1 : xa_H} {x c z : Nat} {cs : Nat → Nat} {v : Option Value} {V : sv_V} {S : Nat → sv_S} (H : vs G h1 x V S) (hf : frV x h h1) (hc : c = 0) : vqc G h x c cs v V S (.returned v) h1 z := by
  refine ⟨H, hf, ?_⟩
  rw [if_pos hc]
def cd_pow (V : sv_V) : Nat := if sv_on V = true then 0 else 1
def cd_name (nm : Int32) : Nat := if nm = 0 then 2 else 0
def cd_item (w n : Int32) (k : Nat) : Nat := if w < 0 ∨ n ≤ w then k else 0
def cd_fold (fs : List sv_E) (p : Int32) : Nat := if p = 0 then 0 else match sv_find fs p with
  | none => 3
  | some e => if e.2.1 = 1 then 0 else 4
def sv_nmd (fs : List sv_E) (p nm : Int32) : Option sv_E := fs.find? (fun e => decide (e.2.2.1 = p ∧ e.2.2.2.1 = nm))
def cd_free (fs : List sv_E) (p nm f : Int32) : Nat := match sv_nmd fs p nm with
  | none => 0
  | some e => if e.1 = f then 0 else 4
abbrev cs4 : Nat → Nat := fun c => 9 + c
section VK
variable {G : xa_G} {h : xa_H} {sz x : Nat} {V : sv_V} {S : Nat → sv_S}
theorem ct_V_checkPower (H : vs G h x V S) : xa_T G mm_V_checkPower 8 1 6 [.ref x] h sz (xq_code h sz (cd_pow V) cs4 none) := by
  have h1 := H.cell
  refine xt_o ok_V_checkPower rfl rfl ?_
  refine xw_aloadR_n dd_V_checkPower_0 rfl ?_
  refine xw_get fl_V_43 dd_V_checkPower_1 h1 rfl ?_
  unfold cd_pow
  by_cases hc : sv_on V = true
  · rw [if_pos hc, if_pos hc]
    refine xw_if_ne 17 dd_V_checkPower_4 (by decide) (fun hq => ?_) (fun hq => absurd hq (by decide))
    exact xw_vret dd_V_checkPower_17 rfl (Or.inl ⟨rfl, rfl, rfl, rfl⟩)
  · rw [if_neg hc, if_neg hc]
    refine xw_if_ne 17 dd_V_checkPower_4 (by decide) (fun hq => absurd rfl hq) (fun hq => ?_)
    exact xw_throw (tx := "power is off") ex_10 dd_V_checkPower_7 dd_V_checkPower_10 dd_V_checkPower_11 dd_V_checkPower_13 dd_V_checkPower_16 (by decide) (by decide) (by decide) rfl (Or.inr ⟨by decide, rfl, rfl, rfl⟩)
theorem ct_V_checkName {nm : Int32} : xa_T G mm_V_checkName 8 1 6 [.int nm] h sz (xq_code h sz (cd_name nm) cs4 none) := by
  refine xt_o ok_V_checkName rfl rfl ?_
  refine xw_iload_n dd_V_checkName_0 rfl ?_
  unfold cd_name
  by_cases hc : nm = 0
  · rw [if_pos hc]
    refine xw_if_ne 14 dd_V_checkName_1 (by decide) (fun hq => absurd hc hq) (fun hq => ?_)
    exact xw_throw (tx := "0 is no name") ex_11 dd_V_checkName_4 dd_V_checkName_7 dd_V_checkName_8 dd_V_checkName_10 dd_V_checkName_13 (by decide) (by decide) (by decide) rfl (Or.inr ⟨by decide, rfl, rfl, rfl⟩)
  · rw [if_neg hc]
    refine xw_if_ne 14 dd_V_checkName_1 (by decide) (fun hq => ?_) (fun hq => absurd hq hc)
    exact xw_vret dd_V_checkName_14 rfl (Or.inl ⟨rfl, rfl, rfl, rfl⟩)
theorem ct_V_checkItem {w n : Int32} {k : Nat} (hk : k ≠ 0) {cs : Nat → Nat} (hcs : cs k = 14) : xa_T G mm_V_checkItem 8 1 6 [.int w, .int n] h sz (xq_code h sz (cd_item w n k) cs none) := by
  have bad : (w < 0 ∨ n ≤ w) → xa_W G mm_V_checkItem 8 1 6 9 [some (.int w), some (.int n)] [] h sz (xq_code h sz (cd_item w n k) cs none) := by
    intro hb
    have hc : cd_item w n k = k := by
      unfold cd_item
      rw [if_pos hb]
    rw [hc]
    exact xw_throw (tx := "there is no such what") ex_14 dd_V_checkItem_9 dd_V_checkItem_12 dd_V_checkItem_13 dd_V_checkItem_15 dd_V_checkItem_18 (by decide) (by decide) (by decide) rfl (Or.inr ⟨hk, rfl, by rw [hcs], rfl⟩)
  refine xt_o ok_V_checkItem rfl rfl ?_
  refine xw_iload_n dd_V_checkItem_0 rfl ?_
  refine xw_if_lt 9 dd_V_checkItem_1 (by decide) (fun hq => bad (Or.inl hq)) (fun hq => ?_)
  refine xw_iload_n dd_V_checkItem_4 rfl ?_
  refine xw_iload_n dd_V_checkItem_5 rfl ?_
  refine xw_icmp_lt 19 dd_V_checkItem_6 (by decide) (fun hq2 => ?_) (fun hq2 => bad (Or.inr (Int32.not_lt.mp hq2)))
  refine xw_vret dd_V_checkItem_19 rfl (Or.inl ⟨?_, rfl, rfl, rfl⟩)
  unfold cd_item
  rw [if_neg]
  rintro (q | q)
  · exact hq q
  · exact Int32.not_lt.mpr q hq2
/-- a file's entry, or the exception -/
def xq_live (h : xa_H) (sz : Nat) (fs : List sv_E) (f : Int32) : Outcome → xa_H → Nat → Prop := fun o h' z => (∃ e y, sv_find fs f = some e ∧ o = .returned (some (.ref y)) ∧ h y = some (en_c e) ∧ h' = h ∧ z = sz) ∨ (sv_find fs f = none ∧ o = .threw sz ∧ h' = xa_up h sz (.inr (12, [])) ∧ z = sz + 1)
theorem ct_V_liveEntry {f : Int32} (H : vs G h x V S) : xa_T G mm_V_liveEntry 8 1 6 [.ref x, .int f] h sz (xq_live h sz (sv_fs V) f) := by
  obtain ⟨ar, cp, h1, ⟨xs, h2⟩, -⟩ := H
  refine xt_o ok_V_liveEntry rfl rfl ?_
  refine xw_aloadR_n dd_V_liveEntry_0 rfl ?_
  refine xw_get fl_V_14 dd_V_liveEntry_1 h1 rfl ?_
  refine xw_iload_n dd_V_liveEntry_4 rfl ?_
  refine xw_cl0 (ct_F_entryOf h2) (iv_V_liveEntry_5 h2.1) ok_F_entryOf rfl rfl rfl ?_ (fun _ _ _ q => by cases q.2.2.choose_spec.1)
  rintro v h sz ⟨rfl, rfl, r, hv, hr⟩
  cases hv
  rcases hr with ⟨w1, rfl⟩ | ⟨e, y, w1, rfl, w3⟩
  · refine xw_astore_n (r := none) dd_V_liveEntry_8 (by decide) ?_
    refine xw_aload_n (r := none) dd_V_liveEntry_9 rfl ?_
    refine xw_ifnonnullN dd_V_liveEntry_10 ?_
    exact xw_throw (tx := "the file does not live") ex_12 dd_V_liveEntry_13 dd_V_liveEntry_16 dd_V_liveEntry_17 dd_V_liveEntry_19 dd_V_liveEntry_22 (by decide) (by decide) (by decide) rfl (Or.inr ⟨w1, rfl, rfl, rfl⟩)
  · refine xw_astore_n (r := some y) dd_V_liveEntry_8 (by decide) ?_
    refine xw_aloadR_n dd_V_liveEntry_9 rfl ?_
    refine xw_ifnonnullR 23 dd_V_liveEntry_10 (by decide) ?_
    refine xw_aloadR_n dd_V_liveEntry_23 rfl ?_
    exact xw_aretR dd_V_liveEntry_24 rfl (Or.inl ⟨_, rfl⟩) (Or.inl ⟨e, y, w1, rfl, w3, rfl, rfl⟩)
theorem xw_live {M : xa_M} {dp kc ks pc : Nat} {L : List (Option Value)} {stk as rest : List Value} {Q : Outcome → xa_H → Nat → Prop} {f : Int32} {fs : List sv_E} (hT : xa_T G mm_V_liveEntry 8 1 6 as h sz (xq_live h sz fs f)) (hI : xa_inv G M mm_V_liveEntry pc stk as rest h) (hdp : Nat.ble 9 dp = true) (hst : Nat.ble ((rest.map fun v => v.category).sum) 8 = true) (ho : xa_out M pc)
    (hret : ∀ e y, sv_find fs f = some e → h y = some (en_c e) → xa_W G M dp kc ks (pc + 3) L (.ref y :: rest) h sz Q) (hthr : sv_find fs f = none → Q (.threw sz) (xa_up h sz (.inr (12, []))) (sz + 1)) : xa_W G M dp (kc + 1) (ks + 6) pc L stk h sz Q := by
  refine xw_cl hT hI ok_V_liveEntry hdp rfl hst ?_ ?_
  · rintro v' h' z (⟨e, y, c0, hv, c1, rfl, rfl⟩ | ⟨c0, hv, -, -⟩)
    · cases hv
      exact hret e y c0 c1
    · cases hv
  · rintro a h' z (⟨e, y, c0, hv, -⟩ | ⟨c0, hv, rfl, rfl⟩)
    · cases hv
    · cases hv
      exact xx_out ho (hthr c0)
theorem ct_V_checkFolder {p : Int32} (H : vs G h x V S) : xa_T G mm_V_checkFolder 9 2 12 [.ref x, .int p] h sz (xq_code h sz (cd_fold (sv_fs V) p) cs4 none) := by
  have h1 := H.cell
  refine xt_o ok_V_checkFolder rfl rfl ?_
  refine xw_iload_n dd_V_checkFolder_0 rfl ?_
  by_cases hp : p = 0
  · refine xw_if_ne 5 dd_V_checkFolder_1 (by decide) (fun hq => absurd hp hq) (fun hq => ?_)
    refine xw_vret dd_V_checkFolder_4 rfl (Or.inl ⟨?_, rfl, rfl, rfl⟩)
    unfold cd_fold
    rw [if_pos hp]
  · refine xw_if_ne 5 dd_V_checkFolder_1 (by decide) (fun hq => ?_) (fun hq => absurd hq hp)
    refine xw_aloadR_n dd_V_checkFolder_5 rfl ?_
    refine xw_iload_n dd_V_checkFolder_6 rfl ?_
    refine xw_less (kc' := 1 + 1) (ks' := 6 + 6) (by decide) (by decide) ?_
    refine xw_live (ct_V_liveEntry H) (iv_V_checkFolder_7 h1) rfl rfl rfl (fun e y w1 w2 => ?_) (fun w => Or.inr ⟨?_, rfl, ?_, rfl⟩)
    · refine xw_get fl_V_90 dd_V_checkFolder_10 w2 rfl ?_
      refine xw_iconst 1 dd_V_checkFolder_13 (by decide) ?_
      refine xw_icmp_eq 27 dd_V_checkFolder_14 (by decide) (fun hq => ?_) (fun hq => ?_)
      · refine xw_vret dd_V_checkFolder_27 rfl (Or.inl ⟨?_, rfl, rfl, rfl⟩)
        unfold cd_fold
        rw [if_neg hp, w1]
        exact if_pos hq
      · have hc : cd_fold (sv_fs V) p = 4 := by
          unfold cd_fold
          rw [if_neg hp, w1]
          exact if_neg hq
        rw [hc]
        exact xw_throw (tx := "the parent is no folder") ex_13 dd_V_checkFolder_17 dd_V_checkFolder_20 dd_V_checkFolder_21 dd_V_checkFolder_23 dd_V_checkFolder_26 (by decide) (by decide) (by decide) rfl (Or.inr ⟨by decide, rfl, rfl, rfl⟩)
    · unfold cd_fold
      rw [if_neg hp, w]
      decide
    · have hc : cd_fold (sv_fs V) p = 3 := by
        unfold cd_fold
        rw [if_neg hp, w]
      rw [hc]
theorem ct_V_checkNameFree {p nm f : Int32} (H : vs G h x V S) : xa_T G mm_V_checkNameFree 8 1 6 [.ref x, .int p, .int nm, .int f] h sz (xq_code h sz (cd_free (sv_fs V) p nm f) cs4 none) := by
  obtain ⟨ar, cp, h1, ⟨xs, h2⟩, -⟩ := H
  refine xt_o ok_V_checkNameFree rfl rfl ?_
  refine xw_aloadR_n dd_V_checkNameFree_0 rfl ?_
  refine xw_get fl_V_14 dd_V_checkNameFree_1 h1 rfl ?_
  refine xw_iload_n dd_V_checkNameFree_4 rfl ?_
  refine xw_iload_n dd_V_checkNameFree_5 rfl ?_
  refine xw_cl0 (ct_F_entryNamed h2) (iv_V_checkNameFree_6 h2.1) ok_F_entryNamed rfl rfl rfl ?_ (fun _ _ _ q => by cases q.2.2.choose_spec.1)
  rintro v h sz ⟨rfl, rfl, r, hv, hr⟩
  cases hv
  rcases hr with ⟨w1, rfl⟩ | ⟨e, y, w1, rfl, w3⟩
  · refine xw_astore (r := none) dd_V_checkNameFree_9 (by decide) ?_
    refine xw_aload (r := none) dd_V_checkNameFree_11 rfl ?_
    refine xw_ifnullN 35 dd_V_checkNameFree_13 (by decide) ?_
    refine xw_vret dd_V_checkNameFree_35 rfl (Or.inl ⟨?_, rfl, rfl, rfl⟩)
    unfold cd_free sv_nmd
    rw [w1]
  · have w1' : sv_nmd (sv_fs V) p nm = some e := w1
    refine xw_astore (r := some y) dd_V_checkNameFree_9 (by decide) ?_
    refine xw_aloadR dd_V_checkNameFree_11 rfl ?_
    refine xw_ifnullR dd_V_checkNameFree_13 ?_
    refine xw_aloadR dd_V_checkNameFree_16 rfl ?_
    refine xw_get fl_V_83 dd_V_checkNameFree_18 w3 rfl ?_
    refine xw_iload_n dd_V_checkNameFree_21 rfl ?_
    refine xw_icmp_eq 35 dd_V_checkNameFree_22 (by decide) (fun hq => ?_) (fun hq => ?_)
    · refine xw_vret dd_V_checkNameFree_35 rfl (Or.inl ⟨?_, rfl, rfl, rfl⟩)
      unfold cd_free
      rw [w1']
      exact if_pos hq
    · have hc : cd_free (sv_fs V) p nm f = 4 := by
        unfold cd_free
        rw [w1']
        exact if_neg hq
      rw [hc]
      exact xw_throw (tx := "the folder has a file of this name") ex_13 dd_V_checkNameFree_25 dd_V_checkNameFree_28 dd_V_checkNameFree_29 dd_V_checkNameFree_31 dd_V_checkNameFree_34 (by decide) (by decide) (by decide) rfl (Or.inr ⟨by decide, rfl, rfl, rfl⟩)
/-- is it, or lies it in -/
def sv_in (fs : List sv_E) (outer : Int32) : Nat → Int32 → Bool
  | 0, _ => false
  | k + 1, at_ => if at_ = outer then true else match sv_find fs at_ with
    | none => false
    | some e => sv_in fs outer k e.2.2.1
theorem ct_V_isOrLiesIn {a b : Int32} (H : vs G h x V S) : xa_T G mm_V_isOrLiesIn 4 0 0 [.ref x, .int a, .int b] h sz (xq_same h sz (some (.int (if sv_in (sv_fs V) b 21 a = true then 1 else 0)))) := by
  obtain ⟨ar, cp, h1, ⟨xs, h2⟩, -⟩ := H
  have loop : ∀ (k d : Nat) (c : Int32) (ov : Option Value), d + k = 21 → sv_in (sv_fs V) b k c = sv_in (sv_fs V) b 21 a → xa_W G mm_V_isOrLiesIn 4 0 0 5 [some (.ref x), some (.int a), some (.int b), some (.int c), some (.int (nI d)), ov] [] h sz (xq_same h sz (some (.int (if sv_in (sv_fs V) b 21 a = true then 1 else 0)))) := by
    intro k
    induction k with
    | zero =>
      intro d c ov hk hq
      have : d = 21 := by omega
      subst this
      rw [← hq]
      refine xw_iload dd_V_isOrLiesIn_5 rfl ?_
      refine xw_bipush 20 dd_V_isOrLiesIn_7 (by decide) ?_
      refine xw_icmp_gt 48 dd_V_isOrLiesIn_9 (by decide) (fun hc => ?_) (fun hc => absurd (by decide) hc)
      refine xw_iconst 0 dd_V_isOrLiesIn_48 (by decide) ?_
      exact xw_zret dd_V_isOrLiesIn_49 rfl rfl ⟨rfl, rfl, rfl⟩
    | succ k ih =>
      intro d c ov hk hq
      refine xw_iload dd_V_isOrLiesIn_5 rfl ?_
      refine xw_bipush 20 dd_V_isOrLiesIn_7 (by decide) ?_
      refine xw_icmp_gt 48 dd_V_isOrLiesIn_9 (by decide) (fun hc => absurd hc (nI_nlt (a := 20) (b := d) (by omega) (by decide))) (fun hc => ?_)
      refine xw_iload_n dd_V_isOrLiesIn_12 rfl ?_
      refine xw_iload_n dd_V_isOrLiesIn_13 rfl ?_
      rw [sv_in] at hq
      refine xw_icmp_ne 19 dd_V_isOrLiesIn_14 (by decide) (fun hc2 => ?_) (fun hc2 => ?_)
      · rw [if_neg hc2] at hq
        refine xw_aloadR_n dd_V_isOrLiesIn_19 rfl ?_
        refine xw_get fl_V_14 dd_V_isOrLiesIn_20 h1 rfl ?_
        refine xw_iload_n dd_V_isOrLiesIn_23 rfl ?_
        refine xw_cl0 (ct_F_entryOf h2) (iv_V_isOrLiesIn_24 h2.1) ok_F_entryOf rfl rfl rfl ?_ (fun _ _ _ q => by cases q.2.2.choose_spec.1)
        rintro v h sz ⟨rfl, rfl, r, hv, hr⟩
        cases hv
        rcases hr with ⟨w1, rfl⟩ | ⟨e, y, w1, rfl, w3⟩
        · have w1' : sv_find (sv_fs V) c = none := w1
          rw [w1'] at hq
          refine xw_astore (r := none) dd_V_isOrLiesIn_27 (by decide) ?_
          refine xw_aload (r := none) dd_V_isOrLiesIn_29 rfl ?_
          refine xw_ifnonnullN dd_V_isOrLiesIn_31 ?_
          refine xw_iconst 0 dd_V_isOrLiesIn_34 (by decide) ?_
          exact xw_zret dd_V_isOrLiesIn_35 rfl rfl ⟨by rw [← hq]; rfl, rfl, rfl⟩
        · have w1' : sv_find (sv_fs V) c = some e := w1
          rw [w1'] at hq
          refine xw_astore (r := some y) dd_V_isOrLiesIn_27 (by decide) ?_
          refine xw_aloadR dd_V_isOrLiesIn_29 rfl ?_
          refine xw_ifnonnullR 36 dd_V_isOrLiesIn_31 (by decide) ?_
          refine xw_aloadR dd_V_isOrLiesIn_36 rfl ?_
          refine xw_get fl_V_98 dd_V_isOrLiesIn_38 w3 rfl ?_
          refine xw_istore_n dd_V_isOrLiesIn_41 (by decide) ?_
          refine xw_iinc dd_V_isOrLiesIn_42 rfl (nI_1 d) (by decide) ?_
          refine xw_goto 5 dd_V_isOrLiesIn_45 (by decide) ?_
          exact ih (d + 1) _ _ (by omega) hq
      · rw [if_pos hc2] at hq
        refine xw_iconst 1 dd_V_isOrLiesIn_17 (by decide) ?_
        exact xw_zret dd_V_isOrLiesIn_18 rfl rfl ⟨by rw [← hq]; rfl, rfl, rfl⟩
  refine xt_o ok_V_isOrLiesIn rfl rfl ?_
  refine xw_iload_n dd_V_isOrLiesIn_0 rfl ?_
  refine xw_istore_n dd_V_isOrLiesIn_1 (by decide) ?_
  refine xw_iconst 0 dd_V_isOrLiesIn_2 (by decide) ?_
  refine xw_istore dd_V_isOrLiesIn_3 (by decide) ?_
  exact loop 21 0 a none (by omega) rfl
/-- a subscriber, or the exception -/
def xq_sub (h : xa_H) (sz x : Nat) (s : Int32) : Outcome → xa_H → Nat → Prop := fun o h' z => (∃ k, k < 3 ∧ s = nI k ∧ o = .returned (some (.ref (x + 8 + 4 * k))) ∧ h' = h ∧ z = sz) ∨ ((s < 0 ∨ 3 ≤ s) ∧ o = .threw sz ∧ h' = xa_up h sz (.inr (14, [])) ∧ z = sz + 1)
theorem ct_V_subscriberAt {s : Int32} (H : vs G h x V S) : xa_T G mm_V_subscriberAt 8 1 6 [.ref x, .int s] h sz (xq_sub h sz x s) := by
  obtain ⟨ar, cp, h1, -, -, -, ⟨g, h5, h5'⟩, -⟩ := H
  have bad : (s < 0 ∨ 3 ≤ s) → xa_W G mm_V_subscriberAt 8 1 6 9 [some (.ref x), some (.int s)] [] h sz (xq_sub h sz x s) := by
    intro hb
    exact xw_throwW (tx := "there is no such subscriber") ex_14 dd_V_subscriberAt_9 dd_V_subscriberAt_12 dd_V_subscriberAt_13 dd_V_subscriberAt_16 dd_V_subscriberAt_19 (by decide) (by decide) (by decide) rfl (Or.inr ⟨hb, rfl, rfl, rfl⟩)
  refine xt_o ok_V_subscriberAt rfl rfl ?_
  refine xw_iload_n dd_V_subscriberAt_0 rfl ?_
  refine xw_if_lt 9 dd_V_subscriberAt_1 (by decide) (fun hq => bad (Or.inl hq)) (fun hq => ?_)
  refine xw_iload_n dd_V_subscriberAt_4 rfl ?_
  refine xw_iconst 3 dd_V_subscriberAt_5 (by decide) ?_
  refine xw_icmp_lt 20 dd_V_subscriberAt_6 (by decide) (fun hq2 => ?_) (fun hq2 => bad (Or.inr (Int32.not_lt.mp hq2)))
  obtain ⟨k, hk, rfl⟩ := nI_of hq
  have hk3 : k < 3 := (nI_ltI (b := 3) hk (by decide)).mp hq2
  refine xw_aloadR_n dd_V_subscriberAt_20 rfl ?_
  refine xw_get fl_V_34 dd_V_subscriberAt_21 h1 rfl ?_
  refine xw_iload_n dd_V_subscriberAt_24 rfl ?_
  refine xw_aald (t := 5) rfl dd_V_subscriberAt_25 h5 (vp_in_nI hk3 (by decide)) ?_
  rw [nI_clamp hk, h5' k hk3]
  exact xw_aretR dd_V_subscriberAt_26 rfl (Or.inl ⟨_, rfl⟩) (Or.inl ⟨k, hk3, rfl, rfl, rfl, rfl⟩)
theorem xw_sub {M : xa_M} {dp kc ks pc : Nat} {L : List (Option Value)} {stk as rest : List Value} {Q : Outcome → xa_H → Nat → Prop} {s : Int32} (hT : xa_T G mm_V_subscriberAt 8 1 6 as h sz (xq_sub h sz x s)) (hI : xa_inv G M mm_V_subscriberAt pc stk as rest h) (hdp : Nat.ble 9 dp = true) (hst : Nat.ble ((rest.map fun v => v.category).sum) 8 = true) (ho : xa_out M pc)
    (hret : ∀ k, k < 3 → s = nI k → xa_W G M dp kc ks (pc + 3) L (.ref (x + 8 + 4 * k) :: rest) h sz Q) (hthr : (s < 0 ∨ 3 ≤ s) → Q (.threw sz) (xa_up h sz (.inr (14, []))) (sz + 1)) : xa_W G M dp (kc + 1) (ks + 6) pc L stk h sz Q := by
  refine xw_cl hT hI ok_V_subscriberAt hdp rfl hst ?_ ?_
  · rintro v' h' z (⟨k, c0, c1, hv, rfl, rfl⟩ | ⟨c0, hv, -, -⟩)
    · cases hv
      exact hret k c0 c1
    · cases hv
  · rintro a h' z (⟨k, c0, c1, hv, -⟩ | ⟨c0, hv, rfl, rfl⟩)
    · cases hv
    · cases hv
      exact xx_out ho (hthr c0)
end VK
end
section
/-! NotedVolume: the calls that read (by program: wip/whole/mk29.py) -/
/-- how a call ends: code, answer, what the volume is then -/
def vqr (G : xa_G) (h : xa_H) (x : Nat) (r : Nat × Int32 × sv_V) (cs : Nat → Nat) (S : Nat → sv_S) : Outcome → xa_H → Nat → Prop := vqc G h x r.1 cs (some (.int r.2.1)) r.2.2 S
theorem vqr.thr {G : xa_G} {h h1 : xa_H} {x k sz ci z : Nat} {cs : Nat → Nat} {r : Nat × Int32 × sv_V} {V : sv_V} {S : Nat → sv_S} {v : Int32} (hr : r = (k, v, V)) (H : vs G h1 x V S) (hf : frV x h h1) (hd : xd_h h1 sz) (hk : k ≠ 0) (hci : cs k = ci) : vqr G h x r cs S (.threw sz) (xa_up h1 sz (.inr (ci, []))) z := by
  subst hr
  exact vqc.thr H hf hd hk hci
theorem vqr.ret {G : xa_G} {h h1 : xa_H} {x z : Nat} {cs : Nat → Nat} {r : Nat × Int32 × sv_V} {V : sv_V} {S : Nat → sv_S} {v : Int32} (hr : r = (0, v, V)) (H : vs G h1 x V S) (hf : frV x h h1) : vqr G h x r cs S (.returned (some (.int v))) h1 z := by
  subst hr
  exact vqc.ret H hf rfl
abbrev cs_of : Nat → Nat := fun c => if c = 1 then 12 else 14
def sv_of (V : sv_V) (f w : Int32) : Nat × Int32 × sv_V := match sv_find (sv_fs V) f with
  | none => (1, 0, V)
  | some e => if w < 0 ∨ 4 ≤ w then (2, 0, V) else (0, sv_it e w.toNatClampNeg, V)
def sv_fnd (V : sv_V) (p nm : Int32) : Int32 := match sv_nmd (sv_fs V) p nm with
  | none => -1
  | some e => e.1
def sv_nte (V : sv_V) (s w : Int32) : Nat × Int32 × sv_V := if nI (rg_tl (sv_hd V)) ≤ s ∧ s < nI (sv_hd V) then if w < 0 ∨ 6 ≤ w then (2, 0, V) else (0, sv_rg V (s.toNatClampNeg % 16) w.toNatClampNeg, V) else (1, 0, V)
section VR
variable {G : xa_G} {h : xa_H} {sz x : Nat} {V : sv_V} {S : Nat → sv_S}
theorem ct_V_open (H : vs G h x V S) : xa_T G mm_V_open 2 0 0 [.ref x] h sz (xq_same h sz (some (.int (nI (sv_gs V).length)))) := by
  obtain ⟨ar, cp, h1, ⟨xs, h2⟩, h3, h4, h5, h6, h7⟩ := H
  obtain ⟨_, hT, -⟩ := id h4
  refine xt_o ok_V_open rfl rfl ?_
  refine xw_aloadR_n dd_V_open_0 rfl ?_
  refine xw_get fl_V_28 dd_V_open_1 h1 rfl ?_
  refine xw_cl0 (ct_H_count h4) (iv_V_open_4 hT) ok_H_count rfl rfl rfl ?_ (fun _ _ _ q => by cases q.1)
  rintro v h sz ⟨hv, rfl, rfl⟩
  cases hv
  exact xw_iret dd_V_open_7 rfl ⟨rfl, rfl, rfl⟩
theorem ct_V_live (H : vs G h x V S) : xa_T G mm_V_live 2 0 0 [.ref x] h sz (xq_same h sz (some (.int (nI (sv_fs V).length)))) := by
  obtain ⟨ar, cp, h1, ⟨xs, h2⟩, h3, h4, h5, h6, h7⟩ := H
  refine xt_o ok_V_live rfl rfl ?_
  refine xw_aloadR_n dd_V_live_0 rfl ?_
  refine xw_get fl_V_14 dd_V_live_1 h1 rfl ?_
  refine xw_cl0 (ct_F_count h2) (iv_V_live_4 h2.1) ok_F_count rfl rfl rfl ?_ (fun _ _ _ q => by cases q.1)
  rintro v h sz ⟨hv, rfl, rfl⟩
  cases hv
  exact xw_iret dd_V_live_7 rfl ⟨rfl, rfl, rfl⟩
theorem ct_V_tail (H : vs G h x V S) : xa_T G mm_V_tail 2 0 0 [.ref x] h sz (xq_same h sz (some (.int (nI (rg_tl (sv_hd V)))))) := by
  obtain ⟨ar, cp, h1, ⟨xs, h2⟩, ⟨f, h3, -⟩, h4, h5, h6, h7⟩ := H
  refine xt_o ok_V_tail rfl rfl ?_
  refine xw_aloadR_n dd_V_tail_0 rfl ?_
  refine xw_get fl_V_21 dd_V_tail_1 h1 rfl ?_
  refine xw_cl0 (ct_R_leastKept h3) (iv_V_tail_4 h3.1) ok_R_leastKept rfl rfl rfl ?_ (fun _ _ _ q => by cases q.1)
  rintro v h sz ⟨hv, rfl, rfl⟩
  cases hv
  exact xw_iret dd_V_tail_7 rfl ⟨rfl, rfl, rfl⟩
theorem ct_V_head (H : vs G h x V S) : xa_T G mm_V_head 2 0 0 [.ref x] h sz (xq_same h sz (some (.int (nI (sv_hd V))))) := by
  obtain ⟨ar, cp, h1, ⟨xs, h2⟩, ⟨f, h3, -⟩, h4, h5, h6, h7⟩ := H
  refine xt_o ok_V_head rfl rfl ?_
  refine xw_aloadR_n dd_V_head_0 rfl ?_
  refine xw_get fl_V_21 dd_V_head_1 h1 rfl ?_
  refine xw_cl0 (ct_R_nextSerial h3) (iv_V_head_4 h3.1) ok_R_nextSerial rfl rfl rfl ?_ (fun _ _ _ q => by cases q.1)
  rintro v h sz ⟨hv, rfl, rfl⟩
  cases hv
  exact xw_iret dd_V_head_7 rfl ⟨rfl, rfl, rfl⟩
theorem ct_V_isOn (H : vs G h x V S) : xa_T G mm_V_isOn 0 0 0 [.ref x] h sz (xq_same h sz (some (.int (if sv_on V = true then 1 else 0)))) := by
  have h1 := H.cell
  refine xt_o ok_V_isOn rfl rfl ?_
  refine xw_aloadR_n dd_V_isOn_0 rfl ?_
  refine xw_get fl_V_43 dd_V_isOn_1 h1 rfl ?_
  refine xw_zret dd_V_isOn_4 rfl ?_ ⟨rfl, rfl, rfl⟩
  by_cases q : sv_on V = true
  · rw [if_pos q]; rfl
  · rw [if_neg q]; rfl
theorem ct_V_find {p nm : Int32} (H : vs G h x V S) : xa_T G mm_V_find 4 0 0 [.ref x, .int p, .int nm] h sz (xq_same h sz (some (.int (sv_fnd V p nm)))) := by
  obtain ⟨ar, cp, h1, ⟨xs, h2⟩, h3, h4, h5, h6, h7⟩ := H
  refine xt_o ok_V_find rfl rfl ?_
  refine xw_aloadR_n dd_V_find_0 rfl ?_
  refine xw_get fl_V_14 dd_V_find_1 h1 rfl ?_
  refine xw_iload_n dd_V_find_4 rfl ?_
  refine xw_iload_n dd_V_find_5 rfl ?_
  refine xw_cl0 (ct_F_entryNamed h2) (iv_V_find_6 h2.1) ok_F_entryNamed rfl rfl rfl ?_ (fun _ _ _ q => by cases q.2.2.choose_spec.1)
  rintro v h sz ⟨rfl, rfl, r, hv, hr⟩
  cases hv
  rcases hr with ⟨w1, rfl⟩ | ⟨e, y, w1, rfl, w3⟩
  · have w1' : sv_nmd (sv_fs V) p nm = none := w1
    refine xw_astore_n (r := none) dd_V_find_9 (by decide) ?_
    refine xw_aload_n (r := none) dd_V_find_10 rfl ?_
    refine xw_ifnonnullN dd_V_find_11 ?_
    refine xw_iconst (-1) dd_V_find_14 (by decide) ?_
    refine xw_goto 22 dd_V_find_15 (by decide) ?_
    exact xw_iret dd_V_find_22 rfl ⟨by unfold sv_fnd; rw [w1'], rfl, rfl⟩
  · have w1' : sv_nmd (sv_fs V) p nm = some e := w1
    refine xw_astore_n (r := some y) dd_V_find_9 (by decide) ?_
    refine xw_aloadR_n dd_V_find_10 rfl ?_
    refine xw_ifnonnullR 18 dd_V_find_11 (by decide) ?_
    refine xw_aloadR_n dd_V_find_18 rfl ?_
    refine xw_get fl_V_83 dd_V_find_19 w3 rfl ?_
    exact xw_iret dd_V_find_22 rfl ⟨by unfold sv_fnd; rw [w1'], rfl, rfl⟩
theorem ct_V_of {f w : Int32} (H : vs G h x V S) : xa_T G mm_V_of 12 200 4000 [.ref x, .int f, .int w] h sz (vqr G h x (sv_of V f w) cs_of S) := by
  have h1 := H.cell
  refine xt_o ok_V_of rfl rfl ?_
  refine xw_dom (fun hdm _ => ?_)
  refine xw_aloadR_n dd_V_of_0 rfl ?_
  refine xw_iload_n dd_V_of_1 rfl ?_
  refine xw_less (kc' := 100 + 1) (ks' := 2000 + 6) (by decide) (by decide) ?_
  refine xw_live (ct_V_liveEntry H) (iv_V_of_2 h1) rfl rfl rfl (fun e y w1 w2 => ?_) (fun w1 => vqr.thr (k := 1) (V := V) (v := 0) (by unfold sv_of; rw [w1]) H frV.refl hdm (by decide) rfl)
  refine xw_astoreR_n dd_V_of_5 (by decide) ?_
  refine xw_iload_n dd_V_of_6 rfl ?_
  refine xw_iconst 4 dd_V_of_7 (by decide) ?_
  refine xw_less (kc' := 50 + 1) (ks' := 1000 + 6) (by decide) (by decide) ?_
  refine xw_chk (ct_V_checkItem (k := 2) (by decide) (cs := cs_of) rfl) iv_V_of_8 ok_V_checkItem rfl rfl rfl rfl (fun c0 => ?_) (fun c0 => ?_)
  · have hb : ¬ (w < 0 ∨ 4 ≤ w) := fun q => by
      unfold cd_item at c0
      rw [if_pos q] at c0
      cases c0
    have h0 : ¬ w < 0 := fun q => hb (Or.inl q)
    have h4 : w < 4 := Int32.not_le.mp (fun q => hb (Or.inr q))
    have hr : sv_of V f w = (0, sv_it e w.toNatClampNeg, V) := by
      unfold sv_of
      rw [w1]
      exact if_neg hb
    obtain ⟨k, hk, rfl⟩ := nI_of h0
    have hk4 : k < 4 := (nI_ltI (b := 4) hk (by decide)).mp h4
    rw [nI_clamp hk] at hr
    refine xw_less (kc' := 0) (ks' := 0) (by decide) (by decide) ?_
    refine xw_aloadR_n dd_V_of_11 rfl ?_
    refine xw_iload_n dd_V_of_12 rfl ?_
    refine xw_cl0 (ct_E_item w2 hk4) (iv_V_of_13 w2) ok_E_item rfl rfl rfl ?_ (fun _ _ _ q => by cases q.1)
    rintro v h sz ⟨hv, rfl, rfl⟩
    cases hv
    exact xw_iret dd_V_of_16 rfl (vqr.ret hr H frV.refl)
  · have hb : w < 0 ∨ 4 ≤ w := by
      by_cases q : w < 0 ∨ 4 ≤ w
      · exact q
      · exact absurd (if_neg q) c0
    have hc : cd_item w 4 2 = 2 := if_pos hb
    rw [hc]
    exact vqr.thr (k := 2) (V := V) (v := 0) (by unfold sv_of; rw [w1]; exact if_pos hb) H frV.refl hdm (by decide) rfl
theorem ct_V_note {s w : Int32} (H : vs G h x V S) : xa_T G mm_V_note 12 200 4000 [.ref x, .int s, .int w] h sz (vqr G h x (sv_nte V s w) cs_of S) := by
  have h1 := H.cell
  have H0 := H
  obtain ⟨ar, cp, -, -, ⟨f, h3, h3'⟩, -⟩ := H
  have hlim := h3.2.2
  refine xt_o ok_V_note rfl rfl ?_
  refine xw_dom (fun hdm _ => ?_)
  refine xw_aloadR_n dd_V_note_0 rfl ?_
  refine xw_get fl_V_21 dd_V_note_1 h1 rfl ?_
  refine xw_iload_n dd_V_note_4 rfl ?_
  refine xw_cl0 (ct_R_noteAt h3) (iv_V_note_5 h3.1) ok_R_noteAt rfl rfl rfl ?_ (fun _ _ _ q => by cases q.1)
  rintro v h sz ⟨hv, rfl, rfl⟩
  cases hv
  by_cases hin : nI (rg_tl (sv_hd V)) ≤ s ∧ s < nI (sv_hd V)
  · rw [if_pos hin]
    have htl : rg_tl (sv_hd V) ≤ sv_hd V := by unfold rg_tl; split <;> omega
    have hs0 : ¬ s < 0 := by
      have q1 := Int32.le_iff_toInt_le.mp hin.1
      rw [nI_toInt (by omega)] at q1
      rw [Int32.lt_iff_toInt_lt, Int32.toInt_zero]
      omega
    obtain ⟨j, hj, rfl⟩ := nI_of hs0
    rw [nI_clamp hj]
    obtain ⟨y, ey, e, r, w1, w2, w3, w4⟩ := h3' j ((nI_leI (by omega) hj).mp hin.1) ((nI_ltI hj (by omega)).mp hin.2)
    rw [w1]
    refine xw_astore_n (r := some y) dd_V_note_8 (by decide) ?_
    refine xw_aloadR_n dd_V_note_9 rfl ?_
    refine xw_ifnonnullR 23 dd_V_note_10 (by decide) ?_
    refine xw_iload_n dd_V_note_23 rfl ?_
    refine xw_bipush 6 dd_V_note_24 (by decide) ?_
    refine xw_less (kc' := 50 + 1) (ks' := 1000 + 6) (by decide) (by decide) ?_
    refine xw_chk (ct_V_checkItem (k := 2) (by decide) (cs := cs_of) rfl) iv_V_note_26 ok_V_checkItem rfl rfl rfl rfl (fun c0 => ?_) (fun c0 => ?_)
    · have hb : ¬ (w < 0 ∨ 6 ≤ w) := fun q => by
        unfold cd_item at c0
        rw [if_pos q] at c0
        cases c0
      have h0 : ¬ w < 0 := fun q => hb (Or.inl q)
      have h4 : w < 6 := Int32.not_le.mp (fun q => hb (Or.inr q))
      obtain ⟨k, hk, rfl⟩ := nI_of h0
      have hk6 : k < 6 := (nI_ltI (b := 6) hk (by decide)).mp h4
      have hr : sv_nte V (nI j) (nI k) = (0, sv_item e r k, V) := by
        unfold sv_nte
        rw [if_pos hin, if_neg hb, nI_clamp hj, nI_clamp hk, w4]
      refine xw_less (kc' := 0) (ks' := 0) (by decide) (by decide) ?_
      refine xw_aloadR_n dd_V_note_29 rfl ?_
      refine xw_iload_n dd_V_note_30 rfl ?_
      refine xw_cl0 (ct_N_item w2 w3 hk6) (iv_V_note_31 w2) ok_N_item rfl rfl rfl ?_ (fun _ _ _ q => by cases q.1)
      rintro v h sz ⟨hv, rfl, rfl⟩
      cases hv
      exact xw_iret dd_V_note_34 rfl (vqr.ret hr H0 frV.refl)
    · have hb : w < 0 ∨ 6 ≤ w := by
        by_cases q : w < 0 ∨ 6 ≤ w
        · exact q
        · exact absurd (if_neg q) c0
      have hc : cd_item w 6 2 = 2 := if_pos hb
      rw [hc]
      exact vqr.thr (k := 2) (V := V) (v := 0) (by unfold sv_nte; rw [if_pos hin, if_pos hb]) H0 frV.refl hdm (by decide) rfl
  · rw [if_neg hin]
    refine xw_astore_n (r := none) dd_V_note_8 (by decide) ?_
    refine xw_aload_n (r := none) dd_V_note_9 rfl ?_
    refine xw_ifnonnullN dd_V_note_10 ?_
    refine xw_less (kc' := 100 + 1) (ks' := 2000 + 6) (by decide) (by decide) ?_
    exact xw_throw (tx := "the note is not kept") ex_12 dd_V_note_13 dd_V_note_16 dd_V_note_17 dd_V_note_19 dd_V_note_22 (by decide) (by decide) (by decide) rfl (vqr.thr (k := 1) (V := V) (v := 0) (by unfold sv_nte; rw [if_neg hin]) H0 frV.refl hdm (by decide) rfl)
def sv_cut (V : sv_V) (n : Int32) : Nat × Int32 × sv_V := if n < -1 then (1, 0, V) else (0, 0, match V with
  | (fs, lt, hd, rg, gs, on, _) => (fs, lt, hd, rg, gs, on, n))
theorem ct_V_cutAfter {n : Int32} (H : vs G h x V S) : xa_T G mm_V_cutAfter 12 200 4000 [.ref x, .int n] h sz (vqc G h x (sv_cut V n).1 (fun _ => 11) none (sv_cut V n).2.2 S) := by
  obtain ⟨ar, cp, H⟩ := H
  refine xt_o ok_V_cutAfter rfl rfl ?_
  refine xw_dom (fun hdm _ => ?_)
  refine xw_iload_n dd_V_cutAfter_0 rfl ?_
  refine xw_iconst (-1) dd_V_cutAfter_1 (by decide) ?_
  refine xw_icmp_ge 15 dd_V_cutAfter_2 (by decide) (fun hc => ?_) (fun hc => ?_)
  · have hn : ¬ n < -1 := Int32.not_lt.mpr hc
    obtain ⟨fs, lt, hd, rg, gs, on, lf⟩ := V
    have hr : sv_cut (fs, lt, hd, rg, gs, on, lf) n = (0, 0, (fs, lt, hd, rg, gs, on, n)) := by
      unfold sv_cut
      rw [if_neg hn]
    rw [hr]
    refine xw_aloadR_n dd_V_cutAfter_15 rfl ?_
    refine xw_iload_n dd_V_cutAfter_16 rfl ?_
    have h1 := H.1
    refine xw_putA fl_V_47 fz_V_47 (by decide) dd_V_cutAfter_17 h1 rfl H.2.2.2.2.2.2.1 rfl rfl (fun h9 n9 f9 => ?_)
    have hk : ∀ b e, h b = some e → ¬ (xt e = 0 ∧ b = x) → h9 b = some e := fun b e hb hn => (f9 b (fun q => hn ⟨by subst q; rw [h1] at hb; cases hb; rfl, q⟩)).trans hb
    exact xw_vret dd_V_cutAfter_20 rfl (vqc.ret ⟨ar, cp, H.setX n9 hk⟩ (fun b e hb hp => hk b e hb (by omega)) rfl)
  · have hn : n < -1 := Int32.not_le.mp hc
    have hr : sv_cut V n = (1, 0, V) := by
      unfold sv_cut
      rw [if_pos hn]
    rw [hr]
    refine xw_less (kc' := 100 + 1) (ks' := 2000 + 6) (by decide) (by decide) ?_
    exact xw_throw (tx := "less than NONE") ex_11 dd_V_cutAfter_5 dd_V_cutAfter_8 dd_V_cutAfter_9 dd_V_cutAfter_11 dd_V_cutAfter_14 (by decide) (by decide) (by decide) rfl (vqc.thr ⟨ar, cp, H⟩ frV.refl hdm (show (1 : Nat) ≠ 0 by decide) rfl)
end VR
end
section
/-! NotedVolume: the calls of subscribers (by program: wip/whole/mk30.py) -/
section VQ
variable {G : xa_G} {h : xa_H} {sz x : Nat} {V : sv_V} {S : Nat → sv_S}
/-- a subscriber's part of the state, and how it is put back -/
theorem vs.toS (H : vs G h x V S) {k : Nat} (hkl : k < 3) : ∃ (ea fea fcap : Nat) (ys : List Nat) (f : Nat → Option Nat), su_at G h (x + 8 + 4 * k) (x + 9 + 4 * k) (x + 10 + 4 * k) ea (x + 11 + 4 * k) (S k) ∧ ft_at G h (x + 1) (x + 2) fea fcap (nI 20) ys (sv_fs V) ∧ rg_at h (x + 3) (x + 4) (sv_hd V) f ∧ rn_at h f (sv_hd V) (sv_rg V) ∧ (fea ≠ ea ∨ su_cap (S k) = 0) ∧ su_cap (S k) ≤ 766 ∧ su_cur (S k) ≤ sv_hd V ∧ G.2.2.1 ≤ x ∧
    ∀ (h1 : xa_H) (sz ea' : Nat) (S' : sv_S), xd_h h sz → su_at G h1 (x + 8 + 4 * k) (x + 9 + 4 * k) (x + 10 + 4 * k) ea' (x + 11 + 4 * k) S' → er sz ea (su_cap (S k)) ea' (su_cap S') → su_cap S' ≤ 766 → su_cur S' ≤ sv_hd V → xk h h1 (su_k (x + 8 + 4 * k) (x + 11 + 4 * k) (x + 10 + 4 * k) ea (su_cap (S k))) → vs G h1 x V (vw S k S') ∧ frV x h h1 := by
  obtain ⟨ar, cp, H⟩ := H
  obtain ⟨h1, ⟨xs, h2⟩, ⟨f, h3, h3'⟩, h4, h5, h6, h7⟩ := id H
  obtain ⟨p1, p2, p3, p4, p5⟩ := h7
  have d0 := p5 (2 + k) 0 (by omega) (by omega) (by omega)
  have e0 := (p4 k hkl).1
  refine ⟨ar (2 + k), ar 0, cp 0, xs, f, h6 k hkl, h2, h3, h3', by omega, (p4 k hkl).2.1, (p4 k hkl).2.2, p1, ?_⟩
  intro h9 sz ea' S' hdm hF he hc0 hc1 hk
  obtain ⟨w1, ⟨zs, -, ⟨-, -, g, ⟨⟨mc, w3⟩, w4, -⟩, -⟩, -⟩, w2, -⟩ := id (h6 k hkl)
  have hk' : ∀ b e, h b = some e → ¬ ((xt e = 7 ∧ b = x + 8 + 4 * k) ∨ (xt e = 100 ∧ b = x + 11 + 4 * k) ∨ (xt e = 8 ∧ b = x + 10 + 4 * k) ∨ (xt e = 103 ∧ b = ar (2 + k) ∧ cp (2 + k) ≠ 0)) → h9 b = some e := by
    intro b e hb hn
    refine hk b e hb ⟨fun q => hn (Or.inl ⟨?_, q⟩), fun q => hn (Or.inr (Or.inl ⟨?_, q⟩)), fun q => hn (Or.inr (Or.inr (Or.inl ⟨?_, q⟩))), ?_⟩
    · subst q; rw [w1] at hb; cases hb; rfl
    · subst q; rw [w2] at hb; cases hb; rfl
    · subst q; rw [w3] at hb; cases hb; rfl
    · by_cases w : su_cap (S k) = 0
      · exact Or.inr w
      · refine Or.inl (fun q => hn (Or.inr (Or.inr (Or.inr ⟨?_, q, by omega⟩))))
        subst q
        rw [w4] at hb
        cases hb
        rfl
  exact ⟨⟨_, _, H.setS hkl hdm hF (by rw [e0]; exact he) hc0 hc1 hk'⟩, fun b e hb hp => hk' b e hb (by omega)⟩
def sk (s : Int32) : Nat := s.toNatClampNeg
def cd_s (s : Int32) : Prop := s < 0 ∨ 3 ≤ s
theorem cd_s_no {k : Nat} (hk : k < 3) : ¬ (nI k < 0 ∨ 3 ≤ nI k) := by
  rintro (q | q)
  · exact nI_pos (by omega) q
  · exact nI_ge (a := k) (b := 3) hk (by decide) q
abbrev cs_s : Nat → Nat := fun c => if c = 1 then 14 else 11
abbrev cs_p : Nat → Nat := fun c => if c = 1 then 14 else 10
abbrev cs_c : Nat → Nat := fun c => if c = 1 then 14 else 12
/-- how a subscriber's call ends: code, answer, what the subscribers are then -/
def vqs (G : xa_G) (h : xa_H) (x : Nat) (r : Nat × Int32 × (Nat → sv_S)) (cs : Nat → Nat) (V : sv_V) : Outcome → xa_H → Nat → Prop := vqc G h x r.1 cs (some (.int r.2.1)) V r.2.2
def vqn (G : xa_G) (h : xa_H) (x : Nat) (r : Nat × Int32 × (Nat → sv_S)) (cs : Nat → Nat) (V : sv_V) : Outcome → xa_H → Nat → Prop := vqc G h x r.1 cs none V r.2.2
theorem vqs.thr {h1 : xa_H} {k sz ci z : Nat} {cs : Nat → Nat} {r : Nat × Int32 × (Nat → sv_S)} {v : Int32} (hr : r = (k, v, S)) (H : vs G h1 x V S) (hf : frV x h h1) (hd : xd_h h1 sz) (hk : k ≠ 0) (hci : cs k = ci) : vqs G h x r cs V (.threw sz) (xa_up h1 sz (.inr (ci, []))) z := by
  subst hr
  exact vqc.thr H hf hd hk hci
theorem vqn.thr {h1 : xa_H} {k sz ci z : Nat} {cs : Nat → Nat} {r : Nat × Int32 × (Nat → sv_S)} {v : Int32} (hr : r = (k, v, S)) (H : vs G h1 x V S) (hf : frV x h h1) (hd : xd_h h1 sz) (hk : k ≠ 0) (hci : cs k = ci) : vqn G h x r cs V (.threw sz) (xa_up h1 sz (.inr (ci, []))) z := by
  subst hr
  exact vqc.thr H hf hd hk hci
theorem vqs.ret {h1 : xa_H} {z : Nat} {cs : Nat → Nat} {r : Nat × Int32 × (Nat → sv_S)} {S' : Nat → sv_S} {v : Int32} (hr : r = (0, v, S')) (H : vs G h1 x V S') (hf : frV x h h1) : vqs G h x r cs V (.returned (some (.int v))) h1 z := by
  subst hr
  exact vqc.ret H hf rfl
theorem vqn.ret {h1 : xa_H} {z : Nat} {cs : Nat → Nat} {r : Nat × Int32 × (Nat → sv_S)} {S' : Nat → sv_S} {v : Int32} (hr : r = (0, v, S')) (H : vs G h1 x V S') (hf : frV x h h1) : vqn G h x r cs V (.returned none) h1 z := by
  subst hr
  exact vqc.ret H hf rfl
def sw_subscribe (V : sv_V) (S : Nat → sv_S) (s mask : Int32) : Nat × Int32 × (Nat → sv_S) := if s < 0 ∨ 3 ≤ s then (1, 0, S) else if mask < 0 ∨ 127 < mask then (2, 0, S) else (0, 0, vw S (sk s) (sv_sub (sv_hd V) mask (S (sk s))))
def sw_cursor (S : Nat → sv_S) (s : Int32) : Nat × Int32 × (Nat → sv_S) := if s < 0 ∨ 3 ≤ s then (1, 0, S) else (0, nI (su_cur (S (sk s))), S)
def sw_read (V : sv_V) (S : Nat → sv_S) (s : Int32) : Nat × Int32 × (Nat → sv_S) := if s < 0 ∨ 3 ≤ s then (1, 0, S) else (0, (sv_read (sv_hd V) (sv_rg V) (su_cur (S (sk s))) (su_mask (S (sk s)))).1, vw S (sk s) (sv_setC (sv_read (sv_hd V) (sv_rg V) (su_cur (S (sk s))) (su_mask (S (sk s)))).2 (S (sk s))))
def sw_list (V : sv_V) (S : Nat → sv_S) (s : Int32) : Nat × Int32 × (Nat → sv_S) := if s < 0 ∨ 3 ≤ s then (1, 0, S) else (0, 0, vw S (sk s) (sv_lst (sv_hd V) (S (sk s))))
def sw_page (V : sv_V) (S : Nat → sv_S) (s : Int32) : Nat × Int32 × (Nat → sv_S) := if s < 0 ∨ 3 ≤ s then (1, 0, S) else if su_ls (S (sk s)) = true then (0, nI (sv_pag (sv_fs V) (S (sk s))).2.2, vw S (sk s) (sv_page (sv_fs V) (S (sk s)))) else (2, 0, S)
def sw_shown (S : Nat → sv_S) (s i : Int32) : Nat × Int32 × (Nat → sv_S) := if s < 0 ∨ 3 ≤ s then (1, -1, S) else (0, if i < 0 ∨ 4 ≤ i then -1 else su_pg (S (sk s)) i.toNatClampNeg, S)
def sw_copied (S : Nat → sv_S) (s f w : Int32) : Nat × Int32 × (Nat → sv_S) := if (s < 0 ∨ 3 ≤ s) ∨ (w < 0 ∨ 4 ≤ w) then (1, 0, S) else match sv_find (su_cp (S (sk s))) f with
  | none => (2, 0, S)
  | some e => (0, sv_it e w.toNatClampNeg, S)
def sw_step (V : sv_V) (S : Nat → sv_S) (s : Int32) : Nat × Int32 × (Nat → sv_S) := if s < 0 ∨ 3 ≤ s then (1, 0, S) else (0, if su_cp (S (sk s)) = sv_fs V then 1 else 0, S)
def sv_acts (hd : Nat) (rg : Nat → Nat → Int32) (fs : List sv_E) : Nat → sv_S → Nat × sv_S
  | 0, S => (0, S)
  | n + 1, S => ((if (sv_act hd rg fs S).1 = true then 1 else 0) + (sv_acts hd rg fs n (sv_act hd rg fs S).2).1, (sv_acts hd rg fs n (sv_act hd rg fs S).2).2)
def sw_follow (V : sv_V) (S : Nat → sv_S) (s n : Int32) : Nat × Int32 × (Nat → sv_S) := if s < 0 ∨ 3 ≤ s then (1, 0, S) else if n < 0 ∨ 40 < n then (2, 0, S) else (0, nI (sv_acts (sv_hd V) (sv_rg V) (sv_fs V) n.toNatClampNeg (S (sk s))).1, vw S (sk s) (sv_acts (sv_hd V) (sv_rg V) (sv_fs V) n.toNatClampNeg (S (sk s))).2)
theorem vw_same (S : Nat → sv_S) (k : Nat) : vw S k (S k) = S := funext (fun j => by unfold vw; split <;> simp_all)
theorem vs.same (H : vs G h x V S) {k : Nat} : vs G h x V (vw S k (S k)) := by rw [vw_same]; exact H
theorem ct_V_cursor {s : Int32} (H : vs G h x V S) : xa_T G mm_V_cursor 12 200 4000 [.ref x, .int s] h sz (vqs G h x (sw_cursor S s) cs_s V) := by
  have h1 := H.cell
  refine xt_o ok_V_cursor rfl rfl ?_
  refine xw_dom (fun hdm _ => ?_)
  refine xw_aloadR_n dd_V_cursor_0 rfl ?_
  refine xw_iload_n dd_V_cursor_1 rfl ?_
  refine xw_less (kc' := 199 + 1) (ks' := 3990 + 6) (by decide) (by decide) ?_
  refine xw_sub (ct_V_subscriberAt H) (iv_V_cursor_2 h1) rfl rfl rfl (fun k hk w0 => ?_) (fun w0 => vqs.thr (k := 1) (v := 0) (by unfold sw_cursor; rw [if_pos w0]) H frV.refl hdm (by decide) rfl)
  subst w0
  obtain ⟨ea, fea, fcap, ys, f, a1, a2, a3, a4, a5, a6, a7, a8, back⟩ := H.toS hk
  have hs := cd_s_no hk
  have hsk : sk (nI k) = k := nI_clamp (by omega)
  refine xw_less (kc' := 0) (ks' := 0) (by decide) (by decide) ?_
  refine xw_get fl_V_183 dd_V_cursor_5 a1.1 rfl ?_
  exact xw_iret dd_V_cursor_8 rfl (vqs.ret (by unfold sw_cursor; rw [if_neg hs, hsk]) H frV.refl)
theorem ct_V_list {s : Int32} (H : vs G h x V S) : xa_T G mm_V_list 12 200 4000 [.ref x, .int s] h sz (vqn G h x (sw_list V S s) cs_s V) := by
  have h1 := H.cell
  refine xt_o ok_V_list rfl rfl ?_
  refine xw_dom (fun hdm _ => ?_)
  refine xw_aloadR_n dd_V_list_0 rfl ?_
  refine xw_iload_n dd_V_list_1 rfl ?_
  refine xw_less (kc' := 199 + 1) (ks' := 3990 + 6) (by decide) (by decide) ?_
  refine xw_sub (ct_V_subscriberAt H) (iv_V_list_2 h1) rfl rfl rfl (fun k hk w0 => ?_) (fun w0 => vqn.thr (k := 1) (v := 0) (by unfold sw_list; rw [if_pos w0]) H frV.refl hdm (by decide) rfl)
  subst w0
  obtain ⟨ea, fea, fcap, ys, f, a1, a2, a3, a4, a5, a6, a7, a8, back⟩ := H.toS hk
  have hs := cd_s_no hk
  have hsk : sk (nI k) = k := nI_clamp (by omega)
  refine xw_less (kc' := 0) (ks' := 0) (by decide) (by decide) ?_
  refine xw_aloadR_n dd_V_list_5 rfl ?_
  refine xw_get fl_V_21 dd_V_list_6 h1 rfl ?_
  refine xw_cl0 (ct_S_beginListing a1 a3) (iv_V_list_9 a1.1) ok_S_beginListing rfl rfl rfl ?_ (fun _ _ _ q => by cases q.1)
  rintro v h9 z9 ⟨hv, rfl, q1, q2⟩
  cases hv
  obtain ⟨b1, b2⟩ := back h9 z9 ea _ hdm q1 (Or.inl ⟨rfl, rfl⟩) a6 (Nat.le_refl _) (fun b e hb hp => (q2 b hp.1).trans hb)
  exact xw_vret dd_V_list_12 rfl (vqn.ret (v := 0) (by unfold sw_list; rw [if_neg hs, hsk]) b1 b2)
theorem sv_read_le {hd cur : Nat} {rg : Nat → Nat → Int32} {mask : Int32} (h : cur ≤ hd) : (sv_read hd rg cur mask).2 ≤ hd := by
  unfold sv_read
  split
  · exact h
  · split
    · rename_i s hs
      have := sv_scan_in hs
      show s + 1 ≤ hd
      omega
    · exact Nat.le_refl _
theorem ct_V_read {s : Int32} (H : vs G h x V S) : xa_T G mm_V_read 12 200 4000 [.ref x, .int s] h sz (vqs G h x (sw_read V S s) cs_s V) := by
  have h1 := H.cell
  refine xt_o ok_V_read rfl rfl ?_
  refine xw_dom (fun hdm _ => ?_)
  refine xw_aloadR_n dd_V_read_0 rfl ?_
  refine xw_iload_n dd_V_read_1 rfl ?_
  refine xw_less (kc' := 199 + 1) (ks' := 3990 + 6) (by decide) (by decide) ?_
  refine xw_sub (ct_V_subscriberAt H) (iv_V_read_2 h1) rfl rfl rfl (fun k hk w0 => ?_) (fun w0 => vqs.thr (k := 1) (v := 0) (by unfold sw_read; rw [if_pos w0]) H frV.refl hdm (by decide) rfl)
  subst w0
  obtain ⟨ea, fea, fcap, ys, f, a1, a2, a3, a4, a5, a6, a7, a8, back⟩ := H.toS hk
  have hs := cd_s_no hk
  have hsk : sk (nI k) = k := nI_clamp (by omega)
  refine xw_less (kc' := 0) (ks' := 0) (by decide) (by decide) ?_
  refine xw_astoreR_n dd_V_read_5 (by decide) ?_
  refine xw_aloadR_n dd_V_read_6 rfl ?_
  refine xw_aloadR_n dd_V_read_7 rfl ?_
  refine xw_get fl_V_21 dd_V_read_8 h1 rfl ?_
  refine xw_aloadR_n dd_V_read_11 rfl ?_
  refine xw_get fl_V_186 dd_V_read_12 a1.1 rfl ?_
  obtain ⟨c1, ⟨zs, c2⟩, c3, c4, c5⟩ := id a1
  refine xw_cl0 (ct_S_takeNote c1 c4 a7 a3 a4) (iv_V_read_15 c1) ok_S_takeNote rfl rfl rfl ?_ (fun _ _ _ q => by cases q.1)
  rintro v h9 z9 ⟨hv, rfl, q1, q2⟩
  cases hv
  have hop : x + 11 + 4 * k ≠ x + 8 + 4 * k := by omega
  obtain ⟨b1, b2⟩ := back h9 z9 ea (sv_setC (sv_read (sv_hd V) (sv_rg V) (su_cur (S k)) (su_mask (S k))).2 (S k)) hdm ⟨q1, ⟨zs, c2.kp (fun b e hb hc => (q2 b (xt_ne hb c1 (by rcases hc with ⟨-, q⟩ | ⟨-, q⟩ | ⟨-, q⟩ | q <;> (rw [q]; simp [xt])))).trans hb)⟩, (q2 _ hop).trans c3, c4, c5⟩ (Or.inl ⟨rfl, rfl⟩) a6 (sv_read_le a7) (fun b e hb hp => (q2 b hp.1).trans hb)
  exact xw_iret dd_V_read_18 rfl (vqs.ret (by unfold sw_read; rw [if_neg hs, hsk]) b1 b2)
theorem ct_V_subscribe {s mask : Int32} (H : vs G h x V S) : xa_T G mm_V_subscribe 12 200 4000 [.ref x, .int s, .int mask] h sz (vqn G h x (sw_subscribe V S s mask) cs_s V) := by
  have h1 := H.cell
  refine xt_o ok_V_subscribe rfl rfl ?_
  refine xw_dom (fun hdm _ => ?_)
  refine xw_aloadR_n dd_V_subscribe_0 rfl ?_
  refine xw_iload_n dd_V_subscribe_1 rfl ?_
  refine xw_less (kc' := 199 + 1) (ks' := 3990 + 6) (by decide) (by decide) ?_
  refine xw_sub (ct_V_subscriberAt H) (iv_V_subscribe_2 h1) rfl rfl rfl (fun k hk w0 => ?_) (fun w0 => vqn.thr (k := 1) (v := 0) (by unfold sw_subscribe; rw [if_pos w0]) H frV.refl hdm (by decide) rfl)
  subst w0
  obtain ⟨ea, fea, fcap, ys, f, a1, a2, a3, a4, a5, a6, a7, a8, back⟩ := H.toS hk
  have hs := cd_s_no hk
  have hsk : sk (nI k) = k := nI_clamp (by omega)
  have bad : (mask < 0 ∨ 127 < mask) → xa_W G mm_V_subscribe 12 199 3990 16 [some (.ref x), some (.int (nI k)), some (.int mask), some (.ref (x + 8 + 4 * k))] [] h sz (vqn G h x (sw_subscribe V S (nI k) mask) cs_s V) := by
    intro hb
    refine xw_less (kc' := 180 + 1) (ks' := 3900 + 6) (by decide) (by decide) ?_
    exact xw_throw (tx := "the mask is not 0 .. 127") ex_11 dd_V_subscribe_16 dd_V_subscribe_19 dd_V_subscribe_20 dd_V_subscribe_22 dd_V_subscribe_25 (by decide) (by decide) (by decide) rfl (vqn.thr (k := 2) (v := 0) (by unfold sw_subscribe; rw [if_neg hs, if_pos hb]) H frV.refl hdm (by decide) rfl)
  refine xw_astoreR_n dd_V_subscribe_5 (by decide) ?_
  refine xw_iload_n dd_V_subscribe_6 rfl ?_
  refine xw_if_lt 16 dd_V_subscribe_7 (by decide) (fun q => bad (Or.inl q)) (fun q1 => ?_)
  refine xw_iload_n dd_V_subscribe_10 rfl ?_
  refine xw_bipush 127 dd_V_subscribe_11 (by decide) ?_
  refine xw_icmp_le 26 dd_V_subscribe_13 (by decide) (fun q2 => ?_) (fun q => bad (Or.inr (Int32.not_le.mp q)))
  have hb : ¬ (mask < 0 ∨ 127 < mask) := by
    rintro (q | q)
    · exact q1 q
    · exact Int32.not_le.mpr q q2
  refine xw_less (kc' := 0) (ks' := 0) (by decide) (by decide) ?_
  refine xw_aloadR_n dd_V_subscribe_26 rfl ?_
  refine xw_iload_n dd_V_subscribe_27 rfl ?_
  refine xw_aloadR_n dd_V_subscribe_28 rfl ?_
  refine xw_get fl_V_21 dd_V_subscribe_29 h1 rfl ?_
  refine xw_cl0 (ct_S_beginAnew a1 a3) (iv_V_subscribe_32 a1.1) ok_S_beginAnew rfl rfl rfl ?_ (fun _ _ _ q => by cases q.1)
  rintro v h9 z9 ⟨hv, rfl, q1, q2⟩
  cases hv
  obtain ⟨b1, b2⟩ := back h9 z9 ea _ hdm q1 (Or.inl ⟨rfl, rfl⟩) a6 (Nat.le_refl _) (fun b e hb hp => (q2 b hp.1 hp.2.1).trans hb)
  exact xw_vret dd_V_subscribe_35 rfl (vqn.ret (v := 0) (by unfold sw_subscribe; rw [if_neg hs, if_neg hb, hsk]) b1 b2)
theorem ct_V_page {s : Int32} (H : vs G h x V S) : xa_T G mm_V_page 12 200 4000 [.ref x, .int s] h sz (vqs G h x (sw_page V S s) cs_p V) := by
  have h1 := H.cell
  refine xt_o ok_V_page rfl rfl ?_
  refine xw_dom (fun hdm _ => ?_)
  refine xw_aloadR_n dd_V_page_0 rfl ?_
  refine xw_iload_n dd_V_page_1 rfl ?_
  refine xw_less (kc' := 199 + 1) (ks' := 3990 + 6) (by decide) (by decide) ?_
  refine xw_sub (ct_V_subscriberAt H) (iv_V_page_2 h1) rfl rfl rfl (fun k hk w0 => ?_) (fun w0 => vqs.thr (k := 1) (v := 0) (by unfold sw_page; rw [if_pos w0]) H frV.refl hdm (by decide) rfl)
  subst w0
  obtain ⟨ea, fea, fcap, ys, f, a1, a2, a3, a4, a5, a6, a7, a8, back⟩ := H.toS hk
  have hs := cd_s_no hk
  have hsk : sk (nI k) = k := nI_clamp (by omega)
  obtain ⟨c1, ⟨zs, c2⟩, c3, c4, c5⟩ := id a1
  refine xw_astoreR_n dd_V_page_5 (by decide) ?_
  refine xw_aloadR_n dd_V_page_6 rfl ?_
  refine xw_get fl_V_197 dd_V_page_7 c1 rfl ?_
  by_cases hl : su_ls (S k) = true
  · rw [if_pos hl]
    refine xw_if_ne 23 dd_V_page_10 (by decide) (fun hq => ?_) (fun hq => absurd hq (by decide))
    refine xw_less (kc' := 0) (ks' := 0) (by decide) (by decide) ?_
    refine xw_aloadR_n dd_V_page_23 rfl ?_
    refine xw_aloadR_n dd_V_page_24 rfl ?_
    refine xw_get fl_V_14 dd_V_page_25 h1 rfl ?_
    refine xw_cl0 (ct_S_showPage c1 c3 c4 c5 a2) (iv_V_page_28 c1) ok_S_showPage rfl rfl rfl ?_ (fun _ _ _ q => by cases q.1)
    rintro v h9 z9 ⟨hv, rfl, q1, q2, q3⟩
    cases hv
    obtain ⟨b1, b2⟩ := back h9 z9 ea (sv_page (sv_fs V) (S k)) hdm ⟨q1, ⟨zs, c2.kp (fun b e hb hc => (q3 b (xt_ne hb c1 (by rcases hc with ⟨-, q⟩ | ⟨-, q⟩ | ⟨-, q⟩ | q <;> (rw [q]; simp [xt]))) (xt_ne hb c3 (by rcases hc with ⟨-, q⟩ | ⟨-, q⟩ | ⟨-, q⟩ | q <;> (rw [q]; simp [xt])))).trans hb)⟩, q2, c4, c5⟩ (Or.inl ⟨rfl, rfl⟩) a6 a7 (fun b e hb hp => (q3 b hp.1 hp.2.1).trans hb)
    exact xw_iret dd_V_page_31 rfl (vqs.ret (by unfold sw_page; rw [if_neg hs, hsk, if_pos hl]; rfl) b1 b2)
  · rw [if_neg hl]
    refine xw_if_ne 23 dd_V_page_10 (by decide) (fun hq => absurd rfl hq) (fun hq => ?_)
    refine xw_less (kc' := 180 + 1) (ks' := 3900 + 6) (by decide) (by decide) ?_
    exact xw_throw (tx := "no listing goes on") ex_10 dd_V_page_13 dd_V_page_16 dd_V_page_17 dd_V_page_19 dd_V_page_22 (by decide) (by decide) (by decide) rfl (vqs.thr (k := 2) (v := 0) (by unfold sw_page; rw [if_neg hs, hsk, if_neg hl]) H frV.refl hdm (by decide) rfl)
theorem ct_V_shown {s i : Int32} (H : vs G h x V S) : xa_T G mm_V_shown 12 200 4000 [.ref x, .int s, .int i] h sz (vqs G h x (sw_shown S s i) cs_s V) := by
  have h1 := H.cell
  refine xt_o ok_V_shown rfl rfl ?_
  refine xw_dom (fun hdm _ => ?_)
  refine xw_aloadR_n dd_V_shown_0 rfl ?_
  refine xw_iload_n dd_V_shown_1 rfl ?_
  refine xw_less (kc' := 199 + 1) (ks' := 3990 + 6) (by decide) (by decide) ?_
  refine xw_sub (ct_V_subscriberAt H) (iv_V_shown_2 h1) rfl rfl rfl (fun k hk w0 => ?_) (fun w0 => vqs.thr (k := 1) (v := -1) (by unfold sw_shown; rw [if_pos w0]) H frV.refl hdm (by decide) rfl)
  subst w0
  obtain ⟨ea, fea, fcap, ys, f, a1, a2, a3, a4, a5, a6, a7, a8, back⟩ := H.toS hk
  have hs := cd_s_no hk
  have hsk : sk (nI k) = k := nI_clamp (by omega)
  obtain ⟨c1, ⟨zs, c2⟩, c3, c4, c5⟩ := id a1
  refine xw_less (kc' := 0) (ks' := 0) (by decide) (by decide) ?_
  have bad : (i < 0 ∨ 4 ≤ i) → xa_W G mm_V_shown 12 0 0 15 [some (.ref x), some (.int (nI k)), some (.int i), some (.ref (x + 8 + 4 * k))] [] h sz (vqs G h x (sw_shown S (nI k) i) cs_s V) := by
    intro hb
    refine xw_iconst (-1) dd_V_shown_15 (by decide) ?_
    refine xw_goto 25 dd_V_shown_16 (by decide) ?_
    exact xw_iret dd_V_shown_25 rfl (vqs.ret (by unfold sw_shown; rw [if_neg hs, if_pos hb]) H frV.refl)
  refine xw_astoreR_n dd_V_shown_5 (by decide) ?_
  refine xw_iload_n dd_V_shown_6 rfl ?_
  refine xw_if_lt 15 dd_V_shown_7 (by decide) (fun q => bad (Or.inl q)) (fun q1 => ?_)
  refine xw_iload_n dd_V_shown_10 rfl ?_
  refine xw_iconst 4 dd_V_shown_11 (by decide) ?_
  refine xw_icmp_lt 19 dd_V_shown_12 (by decide) (fun q2 => ?_) (fun q => bad (Or.inr (Int32.not_lt.mp q)))
  obtain ⟨j, hj, rfl⟩ := nI_of q1
  have hj4 : j < 4 := (nI_ltI (b := 4) hj (by decide)).mp q2
  have hb : ¬ (nI j < 0 ∨ 4 ≤ nI j) := by
    rintro (q | q)
    · exact q1 q
    · exact Int32.not_lt.mpr q q2
  refine xw_aloadR_n dd_V_shown_19 rfl ?_
  refine xw_get fl_V_206 dd_V_shown_20 c1 rfl ?_
  refine xw_iload_n dd_V_shown_23 rfl ?_
  refine xw_iald dd_V_shown_24 c3 (vp_in_nI hj4 (by decide)) ?_
  exact xw_iret dd_V_shown_25 rfl (vqs.ret (by unfold sw_shown; rw [if_neg hs, if_neg hb, hsk]) H frV.refl)
theorem ct_V_inStep {s : Int32} (H : vs G h x V S) : xa_T G mm_V_inStep 12 200 4000 [.ref x, .int s] h sz (vqs G h x (sw_step V S s) cs_s V) := by
  have h1 := H.cell
  refine xt_o ok_V_inStep rfl rfl ?_
  refine xw_dom (fun hdm _ => ?_)
  refine xw_aloadR_n dd_V_inStep_0 rfl ?_
  refine xw_iload_n dd_V_inStep_1 rfl ?_
  refine xw_less (kc' := 199 + 1) (ks' := 3990 + 6) (by decide) (by decide) ?_
  refine xw_sub (ct_V_subscriberAt H) (iv_V_inStep_2 h1) rfl rfl rfl (fun k hk w0 => ?_) (fun w0 => vqs.thr (k := 1) (v := 0) (by unfold sw_step; rw [if_pos w0]) H frV.refl hdm (by decide) rfl)
  subst w0
  obtain ⟨ea, fea, fcap, ys, f, a1, a2, a3, a4, a5, a6, a7, a8, back⟩ := H.toS hk
  have hs := cd_s_no hk
  have hsk : sk (nI k) = k := nI_clamp (by omega)
  obtain ⟨c1, ⟨zs, c2⟩, c3, c4, c5⟩ := id a1
  refine xw_less (kc' := 0) (ks' := 0) (by decide) (by decide) ?_
  refine xw_get fl_V_216 dd_V_inStep_5 c1 rfl ?_
  refine xw_aloadR_n dd_V_inStep_8 rfl ?_
  refine xw_get fl_V_14 dd_V_inStep_9 h1 rfl ?_
  refine xw_cl0 (ct_F_isLike c2 a2) (iv_V_inStep_12 c2.1) ok_F_isLike rfl rfl rfl ?_ (fun _ _ _ q => by cases q.1)
  rintro v h sz ⟨hv, rfl, rfl⟩
  cases hv
  refine xw_zret dd_V_inStep_15 rfl ?_ (vqs.ret (by unfold sw_step; rw [if_neg hs, hsk]) H frV.refl)
  split <;> rfl
theorem ct_V_copied {s f w : Int32} (H : vs G h x V S) : xa_T G mm_V_copied 12 200 4000 [.ref x, .int s, .int f, .int w] h sz (vqs G h x (sw_copied S s f w) cs_c V) := by
  have h1 := H.cell
  refine xt_o ok_V_copied rfl rfl ?_
  refine xw_dom (fun hdm _ => ?_)
  refine xw_aloadR_n dd_V_copied_0 rfl ?_
  refine xw_iload_n dd_V_copied_1 rfl ?_
  refine xw_less (kc' := 199 + 1) (ks' := 3990 + 6) (by decide) (by decide) ?_
  refine xw_sub (ct_V_subscriberAt H) (iv_V_copied_2 h1) rfl rfl rfl (fun k hk w0 => ?_) (fun w0 => vqs.thr (k := 1) (v := 0) (by unfold sw_copied; rw [if_pos (Or.inl w0)]) H frV.refl hdm (by decide) rfl)
  subst w0
  obtain ⟨ea, fea, fcap, ys, f', a1, a2, a3, a4, a5, a6, a7, a8, back⟩ := H.toS hk
  have hs := cd_s_no hk
  have hsk : sk (nI k) = k := nI_clamp (by omega)
  obtain ⟨c1, ⟨zs, c2⟩, c3, c4, c5⟩ := id a1
  refine xw_astoreR dd_V_copied_5 (by decide) ?_
  refine xw_iload_n dd_V_copied_7 rfl ?_
  refine xw_iconst 4 dd_V_copied_8 (by decide) ?_
  refine xw_less (kc' := 180 + 1) (ks' := 3900 + 6) (by decide) (by decide) ?_
  refine xw_chk (ct_V_checkItem (k := 1) (by decide) (cs := cs_c) rfl) iv_V_copied_9 ok_V_checkItem rfl rfl rfl rfl (fun c0 => ?_) (fun c0 => ?_)
  · have hb : ¬ (w < 0 ∨ 4 ≤ w) := fun q => by
      unfold cd_item at c0
      rw [if_pos q] at c0
      cases c0
    have h0 : ¬ w < 0 := fun q => hb (Or.inl q)
    have h4 : w < 4 := Int32.not_le.mp (fun q => hb (Or.inr q))
    have hno : ¬ ((nI k < 0 ∨ 3 ≤ nI k) ∨ (w < 0 ∨ 4 ≤ w)) := fun q => q.elim hs hb
    refine xw_aloadR dd_V_copied_12 rfl ?_
    refine xw_get fl_V_216 dd_V_copied_14 c1 rfl ?_
    refine xw_iload_n dd_V_copied_17 rfl ?_
    refine xw_cl0 (ct_F_entryOf c2) (iv_V_copied_18 c2.1) ok_F_entryOf rfl rfl rfl ?_ (fun _ _ _ q => by cases q.2.2.choose_spec.1)
    rintro v h sz ⟨rfl, rfl, r, hv, hr⟩
    cases hv
    rcases hr with ⟨w1, rfl⟩ | ⟨e, y, w1, rfl, w3⟩
    · have w1' : sv_find (su_cp (S k)) f = none := w1
      refine xw_astore (r := none) dd_V_copied_21 (by decide) ?_
      refine xw_aload (r := none) dd_V_copied_23 rfl ?_
      refine xw_ifnonnullN dd_V_copied_25 ?_
      refine xw_less (kc' := 10 + 1) (ks' := 10 + 6) (by decide) (by decide) ?_
      exact xw_throw (tx := "it is not in the copy") ex_12 dd_V_copied_28 dd_V_copied_31 dd_V_copied_32 dd_V_copied_34 dd_V_copied_37 (by decide) (by decide) (by decide) rfl (vqs.thr (k := 2) (v := 0) (by unfold sw_copied; rw [if_neg hno, hsk, w1']) H frV.refl hdm (by decide) rfl)
    · have w1' : sv_find (su_cp (S k)) f = some e := w1
      obtain ⟨j, hj, rfl⟩ := nI_of h0
      have hj4 : j < 4 := (nI_ltI (b := 4) hj (by decide)).mp h4
      refine xw_less (kc' := 0) (ks' := 0) (by decide) (by decide) ?_
      refine xw_astore (r := some y) dd_V_copied_21 (by decide) ?_
      refine xw_aloadR dd_V_copied_23 rfl ?_
      refine xw_ifnonnullR 38 dd_V_copied_25 (by decide) ?_
      refine xw_aloadR dd_V_copied_38 rfl ?_
      refine xw_iload_n dd_V_copied_40 rfl ?_
      refine xw_cl0 (ct_E_item w3 hj4) (iv_V_copied_41 w3) ok_E_item rfl rfl rfl ?_ (fun _ _ _ q => by cases q.1)
      rintro v h sz ⟨hv, rfl, rfl⟩
      cases hv
      exact xw_iret dd_V_copied_44 rfl (vqs.ret (by unfold sw_copied; rw [if_neg hno, hsk, w1', nI_clamp hj]) H frV.refl)
  · have hb : w < 0 ∨ 4 ≤ w := by
      by_cases q : w < 0 ∨ 4 ≤ w
      · exact q
      · exact absurd (if_neg q) c0
    have hc : cd_item w 4 1 = 1 := if_pos hb
    rw [hc]
    exact vqs.thr (k := 1) (v := 0) (by unfold sw_copied; rw [if_pos (Or.inr hb)]) H frV.refl hdm (by decide) rfl
end VQ
end
section
/-! NotedVolume: follow, and the calls that change (by program: wip/whole/mk31.py) -/
theorem vw_k (S : Nat → sv_S) (k : Nat) (S' : sv_S) : vw S k S' k = S' := if_pos rfl
theorem vw_vw (S : Nat → sv_S) (k : Nat) (S1 S2 : sv_S) : vw (vw S k S1) k S2 = vw S k S2 := funext (fun j => by unfold vw; split <;> rfl)
theorem sv_act_cur {hd : Nat} {rg : Nat → Nat → Int32} {fs : List sv_E} {S : sv_S} (h : su_cur S ≤ hd) : su_cur (sv_act hd rg fs S).2 ≤ hd := by
  unfold sv_act
  split
  · exact h
  · split
    · exact Nat.le_refl _
    · split
      · rename_i s hs
        have := sv_scan_in hs
        show s + 1 ≤ hd
        omega
      · exact Nat.le_refl _
section VF
variable {G : xa_G} {h : xa_H} {sz x : Nat} {V : sv_V} {S : Nat → sv_S}
theorem ct_V_follow {s n : Int32} (H : vs G h x V S) : xa_T G mm_V_follow 12 200 4000 [.ref x, .int s, .int n] h sz (vqs G h x (sw_follow V S s n) cs_s V) := by
  have h1 := H.cell
  refine xt_o ok_V_follow rfl rfl ?_
  refine xw_dom (fun hdm _ => ?_)
  refine xw_aloadR_n dd_V_follow_0 rfl ?_
  refine xw_iload_n dd_V_follow_1 rfl ?_
  refine xw_less (kc' := 199 + 1) (ks' := 3990 + 6) (by decide) (by decide) ?_
  refine xw_sub (ct_V_subscriberAt H) (iv_V_follow_2 h1) rfl rfl rfl (fun k hk w0 => ?_) (fun w0 => vqs.thr (k := 1) (v := 0) (by unfold sw_follow; rw [if_pos w0]) H frV.refl hdm (by decide) rfl)
  subst w0
  obtain ⟨ea, fea, fcap, ys, f, a1, a2, a3, a4, a5, a6, a7, a8, back⟩ := H.toS hk
  have hs := cd_s_no hk
  have hsk : sk (nI k) = k := nI_clamp (by omega)
  have bad : (n < 0 ∨ 40 < n) → xa_W G mm_V_follow 12 199 3990 16 [some (.ref x), some (.int (nI k)), some (.int n), some (.ref (x + 8 + 4 * k)), none, none] [] h sz (vqs G h x (sw_follow V S (nI k) n) cs_s V) := by
    intro hb
    refine xw_less (kc' := 180 + 1) (ks' := 3900 + 6) (by decide) (by decide) ?_
    exact xw_throw (tx := "the number of actions is not 0 .. 40") ex_11 dd_V_follow_16 dd_V_follow_19 dd_V_follow_20 dd_V_follow_22 dd_V_follow_25 (by decide) (by decide) (by decide) rfl (vqs.thr (k := 2) (v := 0) (by unfold sw_follow; rw [if_neg hs, if_pos hb]) H frV.refl hdm (by decide) rfl)
  refine xw_astoreR_n dd_V_follow_5 (by decide) ?_
  refine xw_iload_n dd_V_follow_6 rfl ?_
  refine xw_if_lt 16 dd_V_follow_7 (by decide) (fun q => bad (Or.inl q)) (fun q1 => ?_)
  refine xw_iload_n dd_V_follow_10 rfl ?_
  refine xw_bipush 40 dd_V_follow_11 (by decide) ?_
  refine xw_icmp_le 26 dd_V_follow_13 (by decide) (fun q2 => ?_) (fun q => bad (Or.inr (Int32.not_le.mp q)))
  obtain ⟨m, hm, rfl⟩ := nI_of q1
  have hm40 : m ≤ 40 := (nI_leI (b := 40) hm (by decide)).mp q2
  have hb : ¬ (nI m < 0 ∨ 40 < nI m) := by
    rintro (q | q)
    · exact q1 q
    · exact Int32.not_le.mpr q q2
  have hend : sw_follow V S (nI k) (nI m) = (0, nI (sv_acts (sv_hd V) (sv_rg V) (sv_fs V) m (S k)).1, vw S k (sv_acts (sv_hd V) (sv_rg V) (sv_fs V) m (S k)).2) := by
    unfold sw_follow
    rw [if_neg hs, if_neg hb, hsk, nI_clamp hm]
  have loop : ∀ (j i c : Nat) (h9 : xa_H) (z9 : Nat) (S1 : sv_S), i + j = m → c ≤ i → vs G h9 x V (vw S k S1) → frV x h h9 → su_cap S1 ≤ 766 → c + (sv_acts (sv_hd V) (sv_rg V) (sv_fs V) j S1).1 = (sv_acts (sv_hd V) (sv_rg V) (sv_fs V) m (S k)).1 → (sv_acts (sv_hd V) (sv_rg V) (sv_fs V) j S1).2 = (sv_acts (sv_hd V) (sv_rg V) (sv_fs V) m (S k)).2 → xa_W G mm_V_follow 12 (4 * j) (4 * (766 - su_cap S1)) 32 [some (.ref x), some (.int (nI k)), some (.int (nI m)), some (.ref (x + 8 + 4 * k)), some (.int (nI c)), some (.int (nI i))] [] h9 z9 (vqs G h x (sw_follow V S (nI k) (nI m)) cs_s V) := by
    intro j
    induction j with
    | zero =>
      intro i c h9 z9 S1 hij hci H9 hf9 hcap e1 e2
      refine xw_iload dd_V_follow_32 rfl ?_
      refine xw_iload_n dd_V_follow_34 rfl ?_
      refine xw_icmp_ge 62 dd_V_follow_35 (by decide) (fun hc => ?_) (fun hc => absurd (nI_le (by omega) (by omega)) hc)
      refine xw_iload dd_V_follow_62 rfl ?_
      have e1 : c + 0 = (sv_acts (sv_hd V) (sv_rg V) (sv_fs V) m (S k)).1 := e1
      have e2 : S1 = (sv_acts (sv_hd V) (sv_rg V) (sv_fs V) m (S k)).2 := e2
      refine xw_iret dd_V_follow_64 rfl (vqs.ret (S' := vw S k S1) ?_ H9 hf9)
      rw [hend, ← e1, ← e2]
      rfl
    | succ j ih =>
      intro i c h9 z9 S1 hij hci H9 hf9 hcap e1 e2
      obtain ⟨ea9, fea9, fcap9, ys9, f9, b1, b2, b3, b4, b5, b6, b7, b8, back9⟩ := H9.toS hk
      rw [vw_k] at b1 b5 b6 b7
      refine xw_dom (fun hdm9 _ => ?_)
      refine xw_iload dd_V_follow_32 rfl ?_
      refine xw_iload_n dd_V_follow_34 rfl ?_
      refine xw_icmp_ge 62 dd_V_follow_35 (by decide) (fun hc => absurd hc (nI_ge (by omega) (by omega))) (fun hc => ?_)
      refine xw_aloadR_n dd_V_follow_38 rfl ?_
      refine xw_aloadR_n dd_V_follow_39 rfl ?_
      refine xw_get fl_V_21 dd_V_follow_40 H9.cell rfl ?_
      refine xw_aloadR_n dd_V_follow_43 rfl ?_
      refine xw_get fl_V_14 dd_V_follow_44 H9.cell rfl ?_
      have c1 := sv_actC (sv_hd V) (sv_rg V) (sv_fs V) S1
      have c2 := sv_act766 (sv_hd V) (sv_rg V) (sv_fs V) hcap
      refine xw_less (kc' := 4 * j + 4) (ks' := 4 * (766 - su_cap (sv_act (sv_hd V) (sv_rg V) (sv_fs V) S1).2) + 4 * (su_cap (sv_act (sv_hd V) (sv_rg V) (sv_fs V) S1).2 - su_cap S1)) (by omega) (by omega) ?_
      refine xw_cl (ct_S_act b1 b2 b6 (by omega) b5 b7 b3 b4) (iv_V_follow_47 b1.1) ok_S_act rfl rfl rfl ?_ (fun _ _ _ q => by cases q.1)
      rintro v h10 z10 ⟨hv, ⟨ea', u1, u2⟩, u3, u4⟩
      cases hv
      have hb10 := back9 h10 z9 ea' (sv_act (sv_hd V) (sv_rg V) (sv_fs V) S1).2 hdm9 u1 (by rw [vw_k]; exact u2) c2 (sv_act_cur b7) (by rw [vw_k]; exact u4)
      rw [vw_vw] at hb10
      obtain ⟨H10, f10⟩ := hb10
      have a1' : c + ((if (sv_act (sv_hd V) (sv_rg V) (sv_fs V) S1).1 = true then 1 else 0) + (sv_acts (sv_hd V) (sv_rg V) (sv_fs V) j (sv_act (sv_hd V) (sv_rg V) (sv_fs V) S1).2).1) = (sv_acts (sv_hd V) (sv_rg V) (sv_fs V) m (S k)).1 := e1
      by_cases hq : (sv_act (sv_hd V) (sv_rg V) (sv_fs V) S1).1 = true
      · rw [if_pos hq] at a1' ⊢
        refine xw_if_eq 56 dd_V_follow_50 (by decide) (fun hc => absurd hc (by decide)) (fun hc => ?_)
        refine xw_iinc dd_V_follow_53 rfl (nI_1 c) (by decide) ?_
        refine xw_iinc dd_V_follow_56 rfl (nI_1 i) (by decide) ?_
        refine xw_goto 32 dd_V_follow_59 (by decide) ?_
        exact ih (i + 1) (c + 1) h10 z10 _ (by omega) (by omega) H10 (hf9.trans f10) c2 (by omega) e2
      · rw [if_neg hq] at a1' ⊢
        refine xw_if_eq 56 dd_V_follow_50 (by decide) (fun hc => ?_) (fun hc => absurd rfl hc)
        refine xw_iinc dd_V_follow_56 rfl (nI_1 i) (by decide) ?_
        refine xw_goto 32 dd_V_follow_59 (by decide) ?_
        exact ih (i + 1) c h10 z10 _ (by omega) (by omega) H10 (hf9.trans f10) c2 (by omega) e2
  refine xw_iconst 0 dd_V_follow_26 (by decide) ?_
  refine xw_istore dd_V_follow_27 (by decide) ?_
  refine xw_iconst 0 dd_V_follow_29 (by decide) ?_
  refine xw_istore dd_V_follow_30 (by decide) ?_
  refine xw_less (kc' := 4 * m) (ks' := 4 * (766 - su_cap (S k))) (by omega) (by omega) ?_
  exact loop m 0 0 h sz (S k) (by omega) (by omega) H.same frV.refl a6 (by omega) rfl
abbrev cs_h : Nat → Nat := fun c => if c = 1 then 10 else if c = 2 then 12 else 13
theorem pow0 (c0 : cd_pow V = 0) : sv_on V = true := by
  unfold cd_pow at c0
  by_cases q : sv_on V = true
  · exact q
  · rw [if_neg q] at c0
    cases c0
theorem pow1 (c0 : cd_pow V ≠ 0) : ¬ sv_on V = true ∧ cd_pow V = 1 := by
  unfold cd_pow at c0 ⊢
  by_cases q : sv_on V = true
  · rw [if_pos q] at c0
    exact absurd rfl c0
  · exact ⟨q, if_neg q⟩
def sv_cls (V : sv_V) (f : Int32) : Nat × Int32 × sv_V := if sv_on V = true then match sv_gOf (sv_gs V) f with
    | none => (2, 0, V)
    | some g => (0, if (sv_closeG V g).1 = true then 1 else 0, (sv_closeG V g).2)
  else (1, 0, V)
theorem zbit {c : Prop} [Decidable c] : narrow .boolean (.int (if c then 1 else 0)) = .int (if c then 1 else 0) := by split <;> rfl
theorem ct_V_close {f : Int32} (H : vs G h x V S) (hh : sv_hd V < 800000) : xa_T G mm_V_close 12 200 4000 [.ref x, .int f] h sz (vqr G h x (sv_cls V f) cs_h S) := by
  have h1 := H.cell
  refine xt_o ok_V_close rfl rfl ?_
  refine xw_dom (fun hdm _ => ?_)
  refine xw_aloadR_n dd_V_close_0 rfl ?_
  refine xw_less (kc' := 199 + 1) (ks' := 3990 + 6) (by decide) (by decide) ?_
  refine xw_chk (ct_V_checkPower H) (iv_V_close_1 h1) ok_V_checkPower rfl rfl rfl rfl (fun c0 => ?_) (fun c0 => by
    obtain ⟨c1, c2⟩ := pow1 c0
    rw [c2]
    exact vqr.thr (k := 1) (V := V) (v := 0) (by unfold sv_cls; rw [if_neg c1]) H frV.refl hdm (by decide) rfl)
  have on := pow0 c0
  obtain ⟨ar, cp, H'⟩ := id H
  obtain ⟨-, -, -, ⟨ys, h4⟩, -⟩ := H'
  refine xw_aloadR_n dd_V_close_4 rfl ?_
  refine xw_get fl_V_28 dd_V_close_5 h1 rfl ?_
  refine xw_iload_n dd_V_close_8 rfl ?_
  refine xw_cl0 (ct_H_gatheringOf h4) (iv_V_close_9 h4.1) ok_H_gatheringOf rfl rfl rfl ?_ (fun _ _ _ q => by cases q.2.2.choose_spec.1)
  rintro v h sz ⟨rfl, rfl, r, hv, hr⟩
  cases hv
  rcases hr with ⟨w1, rfl⟩ | ⟨g, y, i, w1, rfl, w2, w3, -⟩
  · have w1' : sv_gOf (sv_gs V) f = none := w1
    refine xw_astore_n (r := none) dd_V_close_12 (by decide) ?_
    refine xw_aload_n (r := none) dd_V_close_13 rfl ?_
    refine xw_ifnonnullN dd_V_close_14 ?_
    refine xw_less (kc' := 180 + 1) (ks' := 3900 + 6) (by decide) (by decide) ?_
    exact xw_throw (tx := "no gathering of it is open") ex_12 dd_V_close_17 dd_V_close_20 dd_V_close_21 dd_V_close_23 dd_V_close_26 (by decide) (by decide) (by decide) rfl (vqr.thr (k := 2) (V := V) (v := 0) (by unfold sv_cls; rw [if_pos on, w1']) H frV.refl hdm (by decide) rfl)
  · have w1' : sv_gOf (sv_gs V) f = some g := w1
    have hy : h y = some (gt_d g) := by
      obtain ⟨y', g', e1, e2, e3⟩ := h4.2.2.1.at (List.getElem?_eq_some_iff.mp w3).1
      rw [w2] at e1
      rw [w3] at e2
      cases e1
      cases e2
      exact e3
    refine xw_astore_n (r := some y) dd_V_close_12 (by decide) ?_
    refine xw_aloadR_n dd_V_close_13 rfl ?_
    refine xw_ifnonnullR 27 dd_V_close_14 (by decide) ?_
    refine xw_aloadR_n dd_V_close_27 rfl ?_
    refine xw_aloadR_n dd_V_close_28 rfl ?_
    refine xw_less (kc' := 0 + 2) (ks' := 0 + 7) (by decide) (by decide) ?_
    refine xw_cl (ct_V_writeClosingNote H hy (by omega)) (iv_V_close_29 h1) ok_V_writeClosingNote rfl rfl rfl ?_ (fun _ _ _ q => by cases q.1)
    rintro v h9 z9 ⟨hv, q1, q2⟩
    cases hv
    exact xw_zret dd_V_close_32 rfl zbit (vqr.ret (by unfold sv_cls; rw [if_pos on, w1']) q1 q2)
def sv_chn (V : sv_V) (f : Int32) : Nat × Int32 × sv_V := if sv_on V = true then match sv_find (sv_fs V) f with
    | none => (2, 0, V)
    | some e => if e.2.1 = 1 then (3, 0, V) else if (sv_do V (f, e.2.1, e.2.2.1, e.2.2.2.1, e.2.2.2.2 + 1) 2).1 = true then (0, e.2.2.2.2 + 1, (sv_do V (f, e.2.1, e.2.2.1, e.2.2.2.1, e.2.2.2.2 + 1) 2).2) else (0, -2, (sv_do V (f, e.2.1, e.2.2.1, e.2.2.2.1, e.2.2.2.2 + 1) 2).2)
  else (1, 0, V)
/-- a new entry beside the volume -/
theorem vs.newE {h9 : xa_H} (H : vs G h x V S) (hk : ∀ b e, h b = some e → h9 b = some e) : vs G h9 x V S ∧ frV x h h9 := by
  obtain ⟨ar, cp, H⟩ := H
  exact ⟨⟨ar, cp, H.kp0 hk⟩, fun b e hb _ => hk b e hb⟩
theorem ct_V_change {f : Int32} (H : vs G h x V S) (hh : sv_hd V < 800000) (hg : (sv_gs V).length ≤ 15) : xa_T G mm_V_change 12 200 4000 [.ref x, .int f] h sz (vqr G h x (sv_chn V f) cs_h S) := by
  have h1 := H.cell
  refine xt_o ok_V_change rfl rfl ?_
  refine xw_dom (fun hdm hBz => ?_)
  refine xw_aloadR_n dd_V_change_0 rfl ?_
  refine xw_less (kc' := 199 + 1) (ks' := 3990 + 6) (by decide) (by decide) ?_
  refine xw_chk (ct_V_checkPower H) (iv_V_change_1 h1) ok_V_checkPower rfl rfl rfl rfl (fun c0 => ?_) (fun c0 => by
    obtain ⟨c1, c2⟩ := pow1 c0
    rw [c2]
    exact vqr.thr (k := 1) (V := V) (v := 0) (by unfold sv_chn; rw [if_neg c1]) H frV.refl hdm (by decide) rfl)
  have on := pow0 c0
  refine xw_aloadR_n dd_V_change_4 rfl ?_
  refine xw_iload_n dd_V_change_5 rfl ?_
  refine xw_less (kc' := 180 + 1) (ks' := 3900 + 6) (by decide) (by decide) ?_
  refine xw_live (ct_V_liveEntry H) (iv_V_change_6 h1) rfl rfl rfl (fun e y w1 w2 => ?_) (fun w1 => vqr.thr (k := 2) (V := V) (v := 0) (by unfold sv_chn; rw [if_pos on, w1]) H frV.refl hdm (by decide) rfl)
  refine xw_astoreR_n dd_V_change_9 (by decide) ?_
  refine xw_aloadR_n dd_V_change_10 rfl ?_
  refine xw_get fl_V_90 dd_V_change_11 w2 rfl ?_
  refine xw_iconst 1 dd_V_change_14 (by decide) ?_
  refine xw_icmp_ne 28 dd_V_change_15 (by decide) (fun hq => ?_) (fun hq => ?_)
  · have hq : ¬ e.2.1 = 1 := hq
    refine xw_less (kc' := 100 + 1) (ks' := 1000 + 5) (by decide) (by decide) ?_
    refine xw_newA nw_V_74 dd_V_change_28 (fun h8 n8 f8 => ?_)
    have w2' : h8 y = some (en_c e) := (f8 y (by have := hdm _ _ w2; omega)).trans w2
    refine xw_dup dd_V_change_31 rfl ?_
    refine xw_iload_n dd_V_change_32 rfl ?_
    refine xw_aloadR_n dd_V_change_33 rfl ?_
    refine xw_get fl_V_90 dd_V_change_34 w2' rfl ?_
    refine xw_aloadR_n dd_V_change_37 rfl ?_
    refine xw_get fl_V_98 dd_V_change_38 w2' rfl ?_
    refine xw_aloadR_n dd_V_change_41 rfl ?_
    refine xw_get fl_V_101 dd_V_change_42 w2' rfl ?_
    refine xw_aloadR_n dd_V_change_45 rfl ?_
    refine xw_get fl_V_104 dd_V_change_46 w2' rfl ?_
    refine xw_iconst 1 dd_V_change_49 (by decide) ?_
    refine xw_iadd dd_V_change_50 ?_
    refine xw_cl0 (ct_E_init n8 hBz) iv_V_change_51 ok_E_init rfl rfl rfl ?_ (fun _ _ _ q => by cases q.1)
    rintro v h9 z9 ⟨hv, rfl, n9, f9⟩
    cases hv
    obtain ⟨H9, fr9⟩ := H.newE (h9 := h9) (fun b e hb => by
      have := hdm _ _ hb
      exact (f9 b (by omega)).trans ((f8 b (by omega)).trans hb))
    refine xw_astoreR_n dd_V_change_54 (by decide) ?_
    refine xw_aloadR_n dd_V_change_55 rfl ?_
    refine xw_aloadR_n dd_V_change_56 rfl ?_
    refine xw_iconst 2 dd_V_change_57 (by decide) ?_
    refine xw_less (kc' := 0 + 6) (ks' := 0 + 61) (by decide) (by decide) ?_
    refine xw_cl (ct_V_noteAndDo H9 n9 hh hg) (iv_V_change_58 H9.cell) ok_V_noteAndDo rfl rfl rfl ?_ (fun _ _ _ q => by cases q.1)
    rintro v h10 z10 ⟨hv, q1, q2⟩
    cases hv
    have n10 := q2 _ _ n9 (Or.inl rfl)
    by_cases hd : (sv_do V (f, e.2.1, e.2.2.1, e.2.2.2.1, e.2.2.2.2 + 1) 2).1 = true
    · rw [if_pos hd]
      refine xw_if_eq 71 dd_V_change_61 (by decide) (fun hc => absurd hc (by decide)) (fun hc => ?_)
      refine xw_aloadR_n dd_V_change_64 rfl ?_
      refine xw_get fl_V_104 dd_V_change_65 n10 rfl ?_
      refine xw_goto 73 dd_V_change_68 (by decide) ?_
      exact xw_iret dd_V_change_73 rfl (vqr.ret (by unfold sv_chn; rw [if_pos on, w1]; simp only; rw [if_neg hq, if_pos hd]) q1 (fr9.trans q2))
    · rw [if_neg hd]
      refine xw_if_eq 71 dd_V_change_61 (by decide) (fun hc => ?_) (fun hc => absurd rfl hc)
      refine xw_bipush (-2) dd_V_change_71 (by decide) ?_
      exact xw_iret dd_V_change_73 rfl (vqr.ret (by unfold sv_chn; rw [if_pos on, w1]; simp only; rw [if_neg hq, if_neg hd]) q1 (fr9.trans q2))
  · have hq : e.2.1 = 1 := hq
    refine xw_less (kc' := 100 + 1) (ks' := 1000 + 6) (by decide) (by decide) ?_
    exact xw_throw (tx := "a folder has no content") ex_13 dd_V_change_18 dd_V_change_21 dd_V_change_22 dd_V_change_24 dd_V_change_27 (by decide) (by decide) (by decide) rfl (vqr.thr (k := 3) (V := V) (v := 0) (by unfold sv_chn; rw [if_pos on, w1]; simp only; rw [if_pos hq]) H frV.refl hdm (by decide) rfl)
def sv_rem (V : sv_V) (f : Int32) : Nat × Int32 × sv_V := if sv_on V = true then match sv_find (sv_fs V) f with
    | none => (2, 0, V)
    | some e => if ((sv_fs V).find? (fun e => decide (e.2.2.1 = f))).isSome = true then (3, 0, V) else if (sv_chg V e 32).1 = true then if (sv_spend (sv_chg V e 32).2).1 = true then (0, 1, sv_setF (sv_spend (sv_chg V e 32).2).2 ((sv_fs (sv_spend (sv_chg V e 32).2).2).eraseP (fun e => decide (e.1 = f)))) else (0, 0, (sv_spend (sv_chg V e 32).2).2) else (0, 0, (sv_chg V e 32).2)
  else (1, 0, V)
theorem ct_V_remove {f : Int32} (H : vs G h x V S) (hh : sv_hd V < 800000) (hg : (sv_gs V).length ≤ 15) : xa_T G mm_V_remove 12 200 4000 [.ref x, .int f] h sz (vqr G h x (sv_rem V f) cs_h S) := by
  have h1 := H.cell
  refine xt_o ok_V_remove rfl rfl ?_
  refine xw_dom (fun hdm hBz => ?_)
  refine xw_aloadR_n dd_V_remove_0 rfl ?_
  refine xw_less (kc' := 199 + 1) (ks' := 3990 + 6) (by decide) (by decide) ?_
  refine xw_chk (ct_V_checkPower H) (iv_V_remove_1 h1) ok_V_checkPower rfl rfl rfl rfl (fun c0 => ?_) (fun c0 => by
    obtain ⟨c1, c2⟩ := pow1 c0
    rw [c2]
    exact vqr.thr (k := 1) (V := V) (v := 0) (by unfold sv_rem; rw [if_neg c1]) H frV.refl hdm (by decide) rfl)
  have on := pow0 c0
  refine xw_aloadR_n dd_V_remove_4 rfl ?_
  refine xw_iload_n dd_V_remove_5 rfl ?_
  refine xw_less (kc' := 180 + 1) (ks' := 3900 + 6) (by decide) (by decide) ?_
  refine xw_live (ct_V_liveEntry H) (iv_V_remove_6 h1) rfl rfl rfl (fun e y w1 w2 => ?_) (fun w1 => vqr.thr (k := 2) (V := V) (v := 0) (by unfold sv_rem; rw [if_pos on, w1]) H frV.refl hdm (by decide) rfl)
  obtain ⟨ar, cp, H'⟩ := id H
  obtain ⟨-, ⟨ys, h2⟩, -⟩ := H'
  refine xw_astoreR_n dd_V_remove_9 (by decide) ?_
  refine xw_aloadR_n dd_V_remove_10 rfl ?_
  refine xw_get fl_V_14 dd_V_remove_11 h1 rfl ?_
  refine xw_iload_n dd_V_remove_14 rfl ?_
  refine xw_cl0 (ct_F_hasFilesIn h2) (iv_V_remove_15 h2.1) ok_F_hasFilesIn rfl rfl rfl ?_ (fun _ _ _ q => by cases q.1)
  rintro v h sz ⟨hv, rfl, rfl⟩
  cases hv
  by_cases hq : ((sv_fs V).find? (fun e => decide (e.2.2.1 = f))).isSome = true
  · rw [if_pos hq]
    refine xw_if_eq 31 dd_V_remove_18 (by decide) (fun hc => absurd hc (by decide)) (fun hc => ?_)
    refine xw_less (kc' := 100 + 1) (ks' := 1000 + 6) (by decide) (by decide) ?_
    exact xw_throw (tx := "files lie in it") ex_13 dd_V_remove_21 dd_V_remove_24 dd_V_remove_25 dd_V_remove_27 dd_V_remove_30 (by decide) (by decide) (by decide) rfl (vqr.thr (k := 3) (V := V) (v := 0) (by unfold sv_rem; rw [if_pos on, w1]; simp only; rw [if_pos hq]) H frV.refl hdm (by decide) rfl)
  · rw [if_neg hq]
    refine xw_if_eq 31 dd_V_remove_18 (by decide) (fun hc => ?_) (fun hc => absurd rfl hc)
    refine xw_aloadR_n dd_V_remove_31 rfl ?_
    refine xw_aloadR_n dd_V_remove_32 rfl ?_
    refine xw_bipush 32 dd_V_remove_33 (by decide) ?_
    refine xw_less (kc' := 0 + 5) (ks' := 0 + 33) (by decide) (by decide) ?_
    refine xw_cl (ct_V_writeChangeNote H w2 hh hg) (iv_V_remove_35 h1) ok_V_writeChangeNote rfl rfl rfl ?_ (fun _ _ _ q => by cases q.1)
    rintro v h9 z9 ⟨hv, q1, q2⟩
    cases hv
    by_cases hd : (sv_chg V e 32).1 = true
    · rw [if_pos hd]
      refine xw_if_eq 48 dd_V_remove_38 (by decide) (fun hc => absurd hc (by decide)) (fun hc => ?_)
      obtain ⟨ar9, cp9, H9⟩ := q1
      refine xw_aloadR_n dd_V_remove_41 rfl ?_
      refine xw_cl0 (ct_V_spendWrite H9) (iv_V_remove_42 H9.1) ok_V_spendWrite rfl rfl rfl ?_ (fun _ _ _ q => by cases q.1)
      rintro v h10 z10 ⟨hv, rfl, u1, u2⟩
      cases hv
      have f10 : frV x h h10 := fun b e hb hp => u2 b e (q2 b e hb hp) (by omega)
      by_cases hs : (sv_spend (sv_chg V e 32).2).1 = true
      · rw [if_pos hs]
        refine xw_if_ne 50 dd_V_remove_45 (by decide) (fun hc => ?_) (fun hc => absurd hc (by decide))
        obtain ⟨g1, ⟨zs, g2⟩, g3, g4, g5, g6, g7⟩ := id u1
        refine xw_aloadR_n dd_V_remove_50 rfl ?_
        refine xw_get fl_V_14 dd_V_remove_51 g1 rfl ?_
        refine xw_iload_n dd_V_remove_54 rfl ?_
        refine xw_dom (fun hdm10 _ => ?_)
        refine xw_cl0 (ct_F_drop g2) (iv_V_remove_55 g2.1) ok_F_drop rfl rfl rfl ?_ (fun _ _ _ q => by cases q.1)
        rintro v h11 z11 ⟨hv, rfl, ⟨xs', t1⟩, t2⟩
        cases hv
        refine xw_iconst 1 dd_V_remove_58 (by decide) ?_
        have hr : sv_rem V f = (0, 1, sv_setF (sv_spend (sv_chg V e 32).2).2 ((sv_fs (sv_spend (sv_chg V e 32).2).2).eraseP (fun e => decide (e.1 = f)))) := by
          unfold sv_rem
          rw [if_pos on, w1]
          simp only
          rw [if_neg hq, if_pos hd, if_pos hs]
        generalize (sv_spend (sv_chg V e 32).2).2 = V2 at u1 g2 t1 hr g7
        obtain ⟨fs, lt, hd2, rg, gs, on2, lf⟩ := V2
        obtain ⟨-, ⟨-, -, gg, ⟨⟨_, c3⟩, c4, -⟩, -⟩, -⟩ := id g2
        have hk : ∀ b e, h10 b = some e → ¬ ((xt e = 8 ∧ b = x + 2) ∨ (xt e = 103 ∧ b = ar9 0 ∧ cp9 0 ≠ 0)) → h11 b = some e := fun b e hb hn => (t2 b (fun w => by
            subst w
            rw [c3] at hb
            cases hb
            exact hn (Or.inl ⟨rfl, rfl⟩)) (by
            by_cases w : cp9 0 = 0
            · exact Or.inr w
            · refine Or.inl (fun w2 => hn (Or.inr ⟨?_, w2, w⟩))
              subst w2
              rw [c4] at hb
              cases hb
              rfl)).trans hb
        exact xw_zret dd_V_remove_59 rfl rfl (vqr.ret hr ⟨_, _, u1.setF hdm10 t1 (Or.inl ⟨rfl, rfl⟩) g7.2.1 hk⟩ (f10.trans (fun b e hb hp => hk b e hb (by omega))))
      · rw [if_neg hs]
        refine xw_if_ne 50 dd_V_remove_45 (by decide) (fun hc => absurd rfl hc) (fun hc => ?_)
        refine xw_iconst 0 dd_V_remove_48 (by decide) ?_
        exact xw_zret dd_V_remove_49 rfl rfl (vqr.ret (by unfold sv_rem; rw [if_pos on, w1]; simp only; rw [if_neg hq, if_pos hd, if_neg hs]) ⟨_, _, u1⟩ f10)
    · rw [if_neg hd]
      refine xw_if_eq 48 dd_V_remove_38 (by decide) (fun hc => ?_) (fun hc => absurd rfl hc)
      refine xw_iconst 0 dd_V_remove_48 (by decide) ?_
      exact xw_zret dd_V_remove_49 rfl rfl (vqr.ret (by unfold sv_rem; rw [if_pos on, w1]; simp only; rw [if_neg hq, if_neg hd]) q1 q2)
end VF
end
section
/-! NotedVolume: make, rename, start, the constructor (by program: wip/whole/mk32.py) -/
def mkc (V : sv_V) (p nm : Int32) : Nat := if sv_on V = true then if 20 ≤ (sv_fs V).length then 1 else if nm = 0 then 2 else if cd_fold (sv_fs V) p = 0 then cd_free (sv_fs V) p nm (-1) else cd_fold (sv_fs V) p else 1
def sv_incL (V : sv_V) : sv_V := match V with
  | (fs, lt, hd, rg, gs, on, lf) => (fs, lt + 1, hd, rg, gs, on, lf)
def sv_mk (V : sv_V) (p fl nm : Int32) : Nat × Int32 × sv_V := if mkc V p nm = 0 then if (sv_do V (nI (sv_lt V + 1), fl, p, nm, 0) 1).1 = true then (0, nI (sv_lt V + 1), sv_incL (sv_do V (nI (sv_lt V + 1), fl, p, nm, 0) 1).2) else (0, -2, (sv_do V (nI (sv_lt V + 1), fl, p, nm, 0) 1).2) else (mkc V p nm, 0, V)
theorem sv_mk_thr {V : sv_V} {p fl nm : Int32} {k : Nat} (h : mkc V p nm = k) (hk : k ≠ 0) : sv_mk V p fl nm = (k, 0, V) := by
  unfold sv_mk
  rw [h, if_neg hk]
section VM
variable {G : xa_G} {h : xa_H} {sz x : Nat} {V : sv_V} {S : Nat → sv_S}
theorem ct_V_make {p fb nm fl : Int32} (hfl : fl = if fb = 0 then 0 else 1) (H : vs G h x V S) (hh : sv_hd V < 800000) (hg : (sv_gs V).length ≤ 15) : xa_T G mm_V_make 12 200 4000 [.ref x, .int p, .int fb, .int nm] h sz (vqr G h x (sv_mk V p fl nm) cs4 S) := by
  have h1 := H.cell
  refine xt_o ok_V_make rfl rfl ?_
  refine xw_dom (fun hdm hBz => ?_)
  refine xw_aloadR_n dd_V_make_0 rfl ?_
  refine xw_less (kc' := 199 + 1) (ks' := 3990 + 6) (by decide) (by decide) ?_
  refine xw_chk (ct_V_checkPower H) (iv_V_make_1 h1) ok_V_checkPower rfl rfl rfl rfl (fun c0 => ?_) (fun c0 => by
    obtain ⟨c1, c2⟩ := pow1 c0
    rw [c2]
    exact vqr.thr (k := 1) (V := V) (v := 0) (sv_mk_thr (by unfold mkc; rw [if_neg c1]) (by decide)) H frV.refl hdm (by decide) rfl)
  have on := pow0 c0
  obtain ⟨ar, cp, H'⟩ := id H
  obtain ⟨-, ⟨ys, h2⟩, -⟩ := H'
  have hlen : (sv_fs V).length < 1000000 := by
    have e1 := h2.2.2.len
    have e2 := h2.2.1.len
    omega
  refine xw_aloadR_n dd_V_make_4 rfl ?_
  refine xw_get fl_V_14 dd_V_make_5 h1 rfl ?_
  refine xw_cl0 (ct_F_count h2) (iv_V_make_8 h2.1) ok_F_count rfl rfl rfl ?_ (fun _ _ _ q => by cases q.1)
  rintro v h sz ⟨hv, rfl, rfl⟩
  cases hv
  refine xw_bipush 20 dd_V_make_11 (by decide) ?_
  refine xw_icmp_lt 26 dd_V_make_13 (by decide) (fun hq => ?_) (fun hq => ?_)
  · have hl : ¬ 20 ≤ (sv_fs V).length := by
      have := (nI_ltI (a := (sv_fs V).length) (b := 20) (by omega) (by decide)).mp hq
      omega
    refine xw_iload_n dd_V_make_26 rfl ?_
    refine xw_less (kc' := 180 + 1) (ks' := 3900 + 6) (by decide) (by decide) ?_
    refine xw_chk ct_V_checkName iv_V_make_27 ok_V_checkName rfl rfl rfl rfl (fun c1 => ?_) (fun c1 => ?_)
    · have hn : ¬ nm = 0 := fun q => by
        unfold cd_name at c1
        rw [if_pos q] at c1
        cases c1
      refine xw_aloadR_n dd_V_make_30 rfl ?_
      refine xw_iload_n dd_V_make_31 rfl ?_
      refine xw_less (kc' := 170 + 2) (ks' := 3800 + 12) (by decide) (by decide) ?_
      refine xw_chk (ct_V_checkFolder H) (iv_V_make_32 h1) ok_V_checkFolder rfl rfl rfl rfl (fun c2 => ?_) (fun c2 => vqr.thr (V := V) (v := 0) (sv_mk_thr (by unfold mkc; rw [if_pos on, if_neg hl, if_neg hn, if_neg c2]) c2) H frV.refl hdm c2 rfl)
      refine xw_aloadR_n dd_V_make_35 rfl ?_
      refine xw_iload_n dd_V_make_36 rfl ?_
      refine xw_iload_n dd_V_make_37 rfl ?_
      refine xw_iconst (-1) dd_V_make_38 (by decide) ?_
      refine xw_less (kc' := 160 + 1) (ks' := 3700 + 6) (by decide) (by decide) ?_
      refine xw_chk (ct_V_checkNameFree H) (iv_V_make_39 h1) ok_V_checkNameFree rfl rfl rfl rfl (fun c3 => ?_) (fun c3 => vqr.thr (V := V) (v := 0) (sv_mk_thr (by unfold mkc; rw [if_pos on, if_neg hl, if_neg hn, if_pos c2]) c3) H frV.refl hdm c3 rfl)
      have hmk : mkc V p nm = 0 := by
        unfold mkc
        rw [if_pos on, if_neg hl, if_neg hn, if_pos c2]
        exact c3
      refine xw_less (kc' := 150 + 1) (ks' := 3600 + 5) (by decide) (by decide) ?_
      refine xw_newA nw_V_74 dd_V_make_42 (fun h8 n8 f8 => ?_)
      have hx8 : h8 x = some (vo_c x (sv_lt V) (sv_on V) (sv_lf V)) := (f8 x (by have := hdm _ _ h1; omega)).trans h1
      refine xw_dup dd_V_make_45 rfl ?_
      refine xw_aloadR_n dd_V_make_46 rfl ?_
      refine xw_get fl_V_39 dd_V_make_47 hx8 rfl ?_
      refine xw_iload_n dd_V_make_50 rfl ?_
      refine xw_dia (pj := 59) (stj := [.int (nI (sv_lt V + 1)), .ref sz, .ref sz]) (Lj := [some (.ref x), some (.int p), some (.int fb), some (.int nm), none]) (.int fl) ?_ (fun meet => ?_)
      · refine xw_iload_n dd_V_make_59 rfl ?_
        refine xw_iload_n dd_V_make_60 rfl ?_
        refine xw_iconst 0 dd_V_make_61 (by decide) ?_
        refine xw_cl0 (ct_E_init n8 hBz) iv_V_make_62 ok_E_init rfl rfl rfl ?_ (fun _ _ _ q => by cases q.1)
        rintro v h9 z9 ⟨hv, rfl, n9, f9⟩
        cases hv
        obtain ⟨H9, fr9⟩ := H.newE (h9 := h9) (fun b e hb => by
          have := hdm _ _ hb
          exact (f9 b (by omega)).trans ((f8 b (by omega)).trans hb))
        refine xw_astoreR dd_V_make_65 (by decide) ?_
        refine xw_aloadR_n dd_V_make_67 rfl ?_
        refine xw_aloadR dd_V_make_68 rfl ?_
        refine xw_iconst 1 dd_V_make_70 (by decide) ?_
        refine xw_less (kc' := 0 + 6) (ks' := 0 + 61) (by decide) (by decide) ?_
        refine xw_cl (ct_V_noteAndDo H9 n9 hh hg) (iv_V_make_71 H9.cell) ok_V_noteAndDo rfl rfl rfl ?_ (fun _ _ _ q => by cases q.1)
        rintro v h10 z10 ⟨hv, q1, q2⟩
        cases hv
        have n10 := q2 _ _ n9 (Or.inl rfl)
        by_cases hd : (sv_do V (nI (sv_lt V + 1), fl, p, nm, 0) 1).1 = true
        · have hr : sv_mk V p fl nm = (0, nI (sv_lt V + 1), sv_incL (sv_do V (nI (sv_lt V + 1), fl, p, nm, 0) 1).2) := by
            unfold sv_mk
            rw [if_pos hmk, if_pos hd]
          rw [if_pos hd]
          refine xw_if_ne 80 dd_V_make_74 (by decide) (fun hc => ?_) (fun hc => absurd hc (by decide))
          obtain ⟨ar', cp', H10⟩ := q1
          generalize (sv_do V (nI (sv_lt V + 1), fl, p, nm, 0) 1).2 = V2 at H10 hr
          obtain ⟨fs, lt, hd2, rg, gs, on2, lf⟩ := V2
          have g1 := H10.1
          refine xw_aloadR_n dd_V_make_80 rfl ?_
          refine xw_dup dd_V_make_81 rfl ?_
          refine xw_get fl_V_39 dd_V_make_82 g1 rfl ?_
          refine xw_iconst 1 dd_V_make_85 (by decide) ?_
          refine xw_iadd dd_V_make_86 ?_
          rw [nI_1]
          refine xw_putA fl_V_39 fz_V_39 (by decide) dd_V_make_87 g1 rfl H10.2.2.2.2.2.2.1 rfl rfl (fun h11 n11 f11 => ?_)
          have hk : ∀ b e, h10 b = some e → ¬ (xt e = 0 ∧ b = x) → h11 b = some e := fun b e hb hn => (f11 b (fun q => hn ⟨by subst q; rw [g1] at hb; cases hb; rfl, q⟩)).trans hb
          refine xw_aloadR dd_V_make_90 rfl ?_
          refine xw_get fl_V_83 dd_V_make_92 (hk _ _ n10 (by simp [xt])) rfl ?_
          exact xw_iret dd_V_make_95 rfl (vqr.ret hr ⟨_, _, H10.setX n11 hk⟩ ((fr9.trans q2).trans (fun b e hb hp => hk b e hb (by omega))))
        · rw [if_neg hd]
          refine xw_if_ne 80 dd_V_make_74 (by decide) (fun hc => absurd rfl hc) (fun hc => ?_)
          refine xw_bipush (-2) dd_V_make_77 (by decide) ?_
          exact xw_iret dd_V_make_79 rfl (vqr.ret (by unfold sv_mk; rw [if_pos hmk, if_neg hd]) q1 (fr9.trans q2))
      · refine xw_if_eq 58 dd_V_make_51 (by decide) (fun hc => ?_) (fun hc => ?_)
        · refine xw_iconst 0 dd_V_make_58 (by decide) ?_
          exact meet _ (by rw [hfl, if_pos hc])
        · refine xw_iconst 1 dd_V_make_54 (by decide) ?_
          refine xw_goto 59 dd_V_make_55 (by decide) ?_
          exact meet _ (by rw [hfl, if_neg hc])
    · have hn : nm = 0 := by
        by_cases q : nm = 0
        · exact q
        · exact absurd (if_neg q) c1
      have hc : cd_name nm = 2 := if_pos hn
      rw [hc]
      exact vqr.thr (k := 2) (V := V) (v := 0) (sv_mk_thr (by unfold mkc; rw [if_pos on, if_neg hl, if_pos hn]) (by decide)) H frV.refl hdm (by decide) rfl
  · have hl : 20 ≤ (sv_fs V).length := by
      by_cases q : (sv_fs V).length < 20
      · exact absurd (nI_lt (a := (sv_fs V).length) (b := 20) q (by decide)) hq
      · omega
    refine xw_less (kc' := 180 + 1) (ks' := 3900 + 6) (by decide) (by decide) ?_
    exact xw_throw (tx := "20 files live") ex_10 dd_V_make_16 dd_V_make_19 dd_V_make_20 dd_V_make_22 dd_V_make_25 (by decide) (by decide) (by decide) rfl (vqr.thr (k := 1) (V := V) (v := 0) (sv_mk_thr (by unfold mkc; rw [if_pos on, if_pos hl]) (by decide)) H frV.refl hdm (by decide) rfl)
def rnc (V : sv_V) (f p nm : Int32) : Nat := if sv_on V = true then if nm = 0 then 2 else if (sv_find (sv_fs V) f).isSome = true then if cd_fold (sv_fs V) p = 0 then if sv_in (sv_fs V) f 21 p = true then 4 else cd_free (sv_fs V) p nm f else cd_fold (sv_fs V) p else 3 else 1
def sv_rnm (V : sv_V) (e : sv_E) (f p nm : Int32) : Bool × sv_V := if p = e.2.2.1 ∧ nm = e.2.2.2.1 then (false, V) else if (sv_chg V e 4).1 = true then sv_do (sv_chg V e 4).2 (f, e.2.1, p, nm, e.2.2.2.2) (if p = e.2.2.1 then 8 else 24) else (false, (sv_chg V e 4).2)
def sv_ren (V : sv_V) (f p nm : Int32) : Nat × Int32 × sv_V := if rnc V f p nm = 0 then match sv_find (sv_fs V) f with
    | none => (0, 0, V)
    | some e => (0, if (sv_rnm V e f p nm).1 = true then 1 else 0, (sv_rnm V e f p nm).2)
  else (rnc V f p nm, 0, V)
theorem sv_ren_thr {V : sv_V} {f p nm : Int32} {k : Nat} (h : rnc V f p nm = k) (hk : k ≠ 0) : sv_ren V f p nm = (k, 0, V) := by
  unfold sv_ren
  rw [h, if_neg hk]
theorem sg_le3 (V : sv_V) (e : sv_E) (r : Int32) : (sv_gs (sv_chg V e r).2).length ≤ (sv_gs V).length + 1 ∧ sv_hd (sv_chg V e r).2 ≤ sv_hd V + 2 := by
  have ho : (sv_gs (sv_open V e.1).2).length ≤ (sv_gs V).length ∧ sv_hd (sv_open V e.1).2 ≤ sv_hd V + 1 := by
    rw [sv_open_way]
    split
    · exact ⟨Nat.le_refl _, Nat.le_succ _⟩
    · rename_i g _
      have := cg_len V g
      exact ⟨this.1, this.2.1⟩
  unfold sv_chg
  split
  · have hs := sp_len (sv_open V e.1).2
    unfold sv_note
    split
    · have hl := sg_len (sv_gs (sv_spend (sv_open V e.1).2).2) e.1 r
      refine ⟨?_, ?_⟩
      · show (sv_gather (sv_gs (sv_spend (sv_open V e.1).2).2) e.1 r).2.length ≤ _
        omega
      · show sv_hd (sv_spend (sv_open V e.1).2).2 + 1 ≤ _
        omega
    · refine ⟨?_, ?_⟩
      · show (sv_gs (sv_spend (sv_open V e.1).2).2).length ≤ _
        omega
      · show sv_hd (sv_spend (sv_open V e.1).2).2 ≤ _
        omega
  · exact ⟨Nat.le_trans ho.1 (Nat.le_succ _), Nat.le_trans ho.2 (Nat.le_succ _)⟩
theorem ct_V_rename {f p nm : Int32} (H : vs G h x V S) (hh : sv_hd V < 700000) (hg : (sv_gs V).length ≤ 14) : xa_T G mm_V_rename 12 200 4000 [.ref x, .int f, .int p, .int nm] h sz (vqr G h x (sv_ren V f p nm) cs4 S) := by
  have h1 := H.cell
  refine xt_o ok_V_rename rfl rfl ?_
  refine xw_dom (fun hdm hBz => ?_)
  refine xw_aloadR_n dd_V_rename_0 rfl ?_
  refine xw_less (kc' := 199 + 1) (ks' := 3990 + 6) (by decide) (by decide) ?_
  refine xw_chk (ct_V_checkPower H) (iv_V_rename_1 h1) ok_V_checkPower rfl rfl rfl rfl (fun c0 => ?_) (fun c0 => by
    obtain ⟨c1, c2⟩ := pow1 c0
    rw [c2]
    exact vqr.thr (k := 1) (V := V) (v := 0) (sv_ren_thr (by unfold rnc; rw [if_neg c1]) (by decide)) H frV.refl hdm (by decide) rfl)
  have on := pow0 c0
  refine xw_iload_n dd_V_rename_4 rfl ?_
  refine xw_less (kc' := 180 + 1) (ks' := 3900 + 6) (by decide) (by decide) ?_
  refine xw_chk ct_V_checkName iv_V_rename_5 ok_V_checkName rfl rfl rfl rfl (fun c1 => ?_) (fun c1 => ?_)
  · have hn : ¬ nm = 0 := fun q => by
      unfold cd_name at c1
      rw [if_pos q] at c1
      cases c1
    refine xw_aloadR_n dd_V_rename_8 rfl ?_
    refine xw_iload_n dd_V_rename_9 rfl ?_
    refine xw_less (kc' := 170 + 1) (ks' := 3800 + 6) (by decide) (by decide) ?_
    refine xw_live (ct_V_liveEntry H) (iv_V_rename_10 h1) rfl rfl rfl (fun e y w1 w2 => ?_) (fun w1 => vqr.thr (k := 3) (V := V) (v := 0) (sv_ren_thr (by unfold rnc; rw [if_pos on, if_neg hn, w1]; rfl) (by decide)) H frV.refl hdm (by decide) rfl)
    have his : (sv_find (sv_fs V) f).isSome = true := by rw [w1]; rfl
    refine xw_astoreR dd_V_rename_13 (by decide) ?_
    refine xw_aloadR_n dd_V_rename_15 rfl ?_
    refine xw_iload_n dd_V_rename_16 rfl ?_
    refine xw_less (kc' := 160 + 2) (ks' := 3700 + 12) (by decide) (by decide) ?_
    refine xw_chk (ct_V_checkFolder H) (iv_V_rename_17 h1) ok_V_checkFolder rfl rfl rfl rfl (fun c2 => ?_) (fun c2 => vqr.thr (V := V) (v := 0) (sv_ren_thr (by unfold rnc; rw [if_pos on, if_neg hn, if_pos his, if_neg c2]) c2) H frV.refl hdm c2 rfl)
    refine xw_aloadR_n dd_V_rename_20 rfl ?_
    refine xw_iload_n dd_V_rename_21 rfl ?_
    refine xw_iload_n dd_V_rename_22 rfl ?_
    refine xw_cl0 (ct_V_isOrLiesIn H) (iv_V_rename_23 h1) ok_V_isOrLiesIn rfl rfl rfl ?_ (fun _ _ _ q => by cases q.1)
    rintro v h sz ⟨hv, rfl, rfl⟩
    cases hv
    by_cases hi : sv_in (sv_fs V) f 21 p = true
    · rw [if_pos hi]
      refine xw_if_eq 39 dd_V_rename_26 (by decide) (fun hc => absurd hc (by decide)) (fun hc => ?_)
      refine xw_less (kc' := 100 + 1) (ks' := 1000 + 6) (by decide) (by decide) ?_
      exact xw_throw (tx := "a folder can't lie in itself") ex_13 dd_V_rename_29 dd_V_rename_32 dd_V_rename_33 dd_V_rename_35 dd_V_rename_38 (by decide) (by decide) (by decide) rfl (vqr.thr (k := 4) (V := V) (v := 0) (sv_ren_thr (by unfold rnc; rw [if_pos on, if_neg hn, if_pos his, if_pos c2, if_pos hi]) (by decide)) H frV.refl hdm (by decide) rfl)
    · rw [if_neg hi]
      refine xw_if_eq 39 dd_V_rename_26 (by decide) (fun hc => ?_) (fun hc => absurd rfl hc)
      refine xw_aloadR_n dd_V_rename_39 rfl ?_
      refine xw_iload_n dd_V_rename_40 rfl ?_
      refine xw_iload_n dd_V_rename_41 rfl ?_
      refine xw_iload_n dd_V_rename_42 rfl ?_
      refine xw_less (kc' := 150 + 1) (ks' := 3600 + 6) (by decide) (by decide) ?_
      refine xw_chk (ct_V_checkNameFree H) (iv_V_rename_43 h1) ok_V_checkNameFree rfl rfl rfl rfl (fun c3 => ?_) (fun c3 => vqr.thr (V := V) (v := 0) (sv_ren_thr (by unfold rnc; rw [if_pos on, if_neg hn, if_pos his, if_pos c2, if_neg hi]) c3) H frV.refl hdm c3 rfl)
      have hrn : rnc V f p nm = 0 := by
        unfold rnc
        rw [if_pos on, if_neg hn, if_pos his, if_pos c2, if_neg hi]
        exact c3
      have hr : sv_ren V f p nm = (0, if (sv_rnm V e f p nm).1 = true then 1 else 0, (sv_rnm V e f p nm).2) := by
        unfold sv_ren
        rw [if_pos hrn, w1]
      have go : ∀ mv : Int32, mv = (if p = e.2.2.1 then 0 else 1) → ¬ (p = e.2.2.1 ∧ nm = e.2.2.2.1) → xa_W G mm_V_rename 12 150 3600 78 [some (.ref x), some (.int f), some (.int p), some (.int nm), some (.ref y), some (.int mv), none] [] h sz (vqr G h x (sv_ren V f p nm) cs4 S) := by
        intro mv hmv hno
        refine xw_aloadR_n dd_V_rename_78 rfl ?_
        refine xw_aloadR dd_V_rename_79 rfl ?_
        refine xw_iconst 4 dd_V_rename_81 (by decide) ?_
        refine xw_less (kc' := 100 + 5) (ks' := 2000 + 33) (by decide) (by decide) ?_
        refine xw_cl (ct_V_writeChangeNote H w2 (by omega) (by omega)) (iv_V_rename_82 h1) ok_V_writeChangeNote rfl rfl rfl ?_ (fun _ _ _ q => by cases q.1)
        rintro v h9 z9 ⟨hv, q1, q2⟩
        cases hv
        have sl := sg_le3 V e 4
        have w9 := q2 _ _ w2 (Or.inl rfl)
        by_cases hd : (sv_chg V e 4).1 = true
        · have hrm : sv_rnm V e f p nm = sv_do (sv_chg V e 4).2 (f, e.2.1, p, nm, e.2.2.2.2) (if p = e.2.2.1 then 8 else 24) := by
            unfold sv_rnm
            rw [if_neg hno, if_pos hd]
          rw [if_pos hd]
          refine xw_if_ne 90 dd_V_rename_85 (by decide) (fun hc => ?_) (fun hc => absurd hc (by decide))
          refine xw_dom (fun hdm9 hBz9 => ?_)
          refine xw_less (kc' := 50 + 1) (ks' := 1000 + 5) (by decide) (by decide) ?_
          refine xw_newA nw_V_74 dd_V_rename_90 (fun h10 n10 f10 => ?_)
          have w10 : h10 y = some (en_c e) := (f10 y (by have := hdm9 _ _ w9; omega)).trans w9
          refine xw_dup dd_V_rename_93 rfl ?_
          refine xw_iload_n dd_V_rename_94 rfl ?_
          refine xw_aloadR dd_V_rename_95 rfl ?_
          refine xw_get fl_V_90 dd_V_rename_97 w10 rfl ?_
          refine xw_iload_n dd_V_rename_100 rfl ?_
          refine xw_iload_n dd_V_rename_101 rfl ?_
          refine xw_aloadR dd_V_rename_102 rfl ?_
          refine xw_get fl_V_104 dd_V_rename_104 w10 rfl ?_
          refine xw_cl0 (ct_E_init n10 hBz9) iv_V_rename_107 ok_E_init rfl rfl rfl ?_ (fun _ _ _ q => by cases q.1)
          rintro v h11 z11 ⟨hv, rfl, n11, f11⟩
          cases hv
          obtain ⟨H11, fr11⟩ := q1.newE (h9 := h11) (fun b e hb => by
            have := hdm9 _ _ hb
            exact (f11 b (by omega)).trans ((f10 b (by omega)).trans hb))
          refine xw_astoreR dd_V_rename_110 (by decide) ?_
          refine xw_aloadR_n dd_V_rename_112 rfl ?_
          refine xw_aloadR dd_V_rename_113 rfl ?_
          refine xw_iload dd_V_rename_115 rfl ?_
          refine xw_dia (pj := 127) (stj := [.ref z9, .ref x]) (Lj := [some (.ref x), some (.int f), some (.int p), some (.int nm), some (.ref y), some (.int mv), some (.ref z9)]) (.int (if p = e.2.2.1 then 8 else 24)) ?_ (fun meet => ?_)
          · refine xw_less (kc' := 0 + 6) (ks' := 0 + 61) (by decide) (by decide) ?_
            refine xw_cl (ct_V_noteAndDo H11 n11 (by omega) (by omega)) (iv_V_rename_127 H11.cell) ok_V_noteAndDo rfl rfl rfl ?_ (fun _ _ _ q => by cases q.1)
            rintro v h12 z12 ⟨hv, t1, t2⟩
            cases hv
            exact xw_zret dd_V_rename_130 rfl zbit (vqr.ret (by rw [hr, hrm]) t1 ((q2.trans fr11).trans t2))
          · by_cases hp : p = e.2.2.1
            · rw [if_pos hp] at hmv meet
              subst hmv
              refine xw_if_eq 125 dd_V_rename_117 (by decide) (fun hc => ?_) (fun hc => absurd rfl hc)
              refine xw_bipush 8 dd_V_rename_125 (by decide) ?_
              exact meet _ rfl
            · rw [if_neg hp] at hmv meet
              subst hmv
              refine xw_if_eq 125 dd_V_rename_117 (by decide) (fun hc => absurd hc (by decide)) (fun hc => ?_)
              refine xw_bipush 24 dd_V_rename_120 (by decide) ?_
              refine xw_goto 127 dd_V_rename_122 (by decide) ?_
              exact meet _ rfl
        · have hrm : sv_rnm V e f p nm = (false, (sv_chg V e 4).2) := by
            unfold sv_rnm
            rw [if_neg hno, if_neg hd]
          rw [if_neg hd]
          refine xw_if_ne 90 dd_V_rename_85 (by decide) (fun hc => absurd rfl hc) (fun hc => ?_)
          refine xw_iconst 0 dd_V_rename_88 (by decide) ?_
          exact xw_zret dd_V_rename_89 rfl rfl (vqr.ret (by rw [hr, hrm]; rfl) q1 q2)
      have next : ∀ mv : Int32, mv = (if p = e.2.2.1 then 0 else 1) → xa_W G mm_V_rename 12 150 3600 60 [some (.ref x), some (.int f), some (.int p), some (.int nm), some (.ref y), none, none] [.int mv] h sz (vqr G h x (sv_ren V f p nm) cs4 S) := by
        intro mv hmv
        refine xw_istore dd_V_rename_60 (by decide) ?_
        refine xw_iload dd_V_rename_62 rfl ?_
        by_cases hp : p = e.2.2.1
        · have hm0 : mv = 0 := by rw [hmv, if_pos hp]
          refine xw_if_ne 78 dd_V_rename_64 (by decide) (fun hc => absurd hm0 hc) (fun hc => ?_)
          refine xw_iload_n dd_V_rename_67 rfl ?_
          refine xw_aloadR dd_V_rename_68 rfl ?_
          refine xw_get fl_V_101 dd_V_rename_70 w2 rfl ?_
          refine xw_icmp_ne 78 dd_V_rename_73 (by decide) (fun hc2 => go mv hmv (fun q => hc2 q.2)) (fun hc2 => ?_)
          have hc2 : nm = e.2.2.2.1 := hc2
          have hrm : sv_rnm V e f p nm = (false, V) := by
            unfold sv_rnm
            rw [if_pos ⟨hp, hc2⟩]
          refine xw_iconst 0 dd_V_rename_76 (by decide) ?_
          exact xw_zret dd_V_rename_77 rfl rfl (vqr.ret (by rw [hr, hrm]; rfl) H frV.refl)
        · have hm1 : mv = 1 := by rw [hmv, if_neg hp]
          refine xw_if_ne 78 dd_V_rename_64 (by decide) (fun hc => go mv hmv (fun q => hp q.1)) (fun hc => absurd hc (by rw [hm1]; decide))
      refine xw_iload_n dd_V_rename_46 rfl ?_
      refine xw_aloadR dd_V_rename_47 rfl ?_
      refine xw_get fl_V_98 dd_V_rename_49 w2 rfl ?_
      refine xw_icmp_eq 59 dd_V_rename_52 (by decide) (fun hc => ?_) (fun hc => ?_)
      · refine xw_iconst 0 dd_V_rename_59 (by decide) ?_
        exact next 0 (by rw [if_pos (show p = e.2.2.1 from hc)])
      · refine xw_iconst 1 dd_V_rename_55 (by decide) ?_
        refine xw_goto 60 dd_V_rename_56 (by decide) ?_
        exact next 1 (by rw [if_neg (show ¬ p = e.2.2.1 from hc)])
  · have hn : nm = 0 := by
      by_cases q : nm = 0
      · exact q
      · exact absurd (if_neg q) c1
    have hc : cd_name nm = 2 := if_pos hn
    rw [hc]
    exact vqr.thr (k := 2) (V := V) (v := 0) (sv_ren_thr (by unfold rnc; rw [if_pos on, if_pos hn]) (by decide)) H frV.refl hdm (by decide) rfl
end VM
end
section
/-! NotedVolume: start, the constructor (by program: wip/whole/mk33.py) -/
theorem rcs_len (rg : Nat → Nat → Int32) : ∀ (k s : Nat) (gs : List (Int32 × Int32)), (sv_rcs rg k s gs).length ≤ gs.length + k
  | 0, _, _ => Nat.le_refl _
  | k + 1, s, gs => by
    have h1 : (sv_rc rg gs s).length ≤ gs.length + 1 := by
      unfold sv_rc
      split
      · exact sg_len ..
      · have := st_len gs (rg (s % 16) 0)
        omega
    have h2 := rcs_len rg k (s + 1) (sv_rc rg gs s)
    show (sv_rcs rg k (s + 1) (sv_rc rg gs s)).length ≤ _
    omega
theorem rec_len (hd : Nat) (rg : Nat → Nat → Int32) : (sv_recall hd rg).length ≤ 16 := by
  have h1 := rcs_len rg (hd - rg_tl hd) (rg_tl hd) []
  unfold sv_recall
  have h2 : hd - rg_tl hd ≤ 16 := by
    unfold rg_tl
    split <;> omega
  have h3 : ([] : List (Int32 × Int32)).length = 0 := rfl
  omega
def sv_ends : Nat → sv_V → sv_V
  | 0, V => V
  | k + 1, V => match (sv_gs V).head? with
    | none => sv_ends k V
    | some g => sv_ends k (sv_endG V g)
def sv_back (V : sv_V) : sv_V := match V with
  | (fs, lt, hd, rg, _, _, _) => (fs, lt, hd, rg, sv_recall hd rg, true, -1)
def sv_start (V : sv_V) : Int32 × sv_V := if sv_on V = true then (-1, V) else (nI (sv_recall (sv_hd V) (sv_rg V)).length, sv_ends (sv_recall (sv_hd V) (sv_rg V)).length (sv_back V))
section VT
variable {G : xa_G} {h : xa_H} {sz x : Nat} {V : sv_V} {S : Nat → sv_S}
theorem ct_V_start (H : vs G h x V S) (hh : sv_hd V < 800000) : xa_T G mm_V_start 12 200 4000 [.ref x] h sz (vq G h x (sv_start V).2 S (some (.int (sv_start V).1))) := by
  have h1 := H.cell
  refine xt_o ok_V_start rfl rfl ?_
  refine xw_aloadR_n dd_V_start_0 rfl ?_
  refine xw_get fl_V_43 dd_V_start_1 h1 rfl ?_
  by_cases hon : sv_on V = true
  · have hr : sv_start V = (-1, V) := by
      unfold sv_start
      rw [if_pos hon]
    rw [hr, if_pos hon]
    refine xw_if_eq 9 dd_V_start_4 (by decide) (fun hc => absurd hc (by decide)) (fun hc => ?_)
    refine xw_iconst (-1) dd_V_start_7 (by decide) ?_
    exact xw_iret dd_V_start_8 rfl ⟨rfl, H, frV.refl⟩
  · have hr : sv_start V = (nI (sv_recall (sv_hd V) (sv_rg V)).length, sv_ends (sv_recall (sv_hd V) (sv_rg V)).length (sv_back V)) := by
      unfold sv_start
      rw [if_neg hon]
    rw [hr, if_neg hon]
    refine xw_if_eq 9 dd_V_start_4 (by decide) (fun hc => ?_) (fun hc => absurd rfl hc)
    obtain ⟨ar, cp, H⟩ := H
    obtain ⟨fs, lt, hd, rg, gs, on, lf⟩ := V
    have hB := H.2.2.2.2.2.2.1
    refine xw_aloadR_n dd_V_start_9 rfl ?_
    refine xw_iconst 1 dd_V_start_10 (by decide) ?_
    refine xw_putA fl_V_43 fz_V_43 (by decide) dd_V_start_11 h1 rfl hB rfl rfl (fun h2 n2 f2 => ?_)
    refine xw_aloadR_n dd_V_start_14 rfl ?_
    refine xw_iconst (-1) dd_V_start_15 (by decide) ?_
    refine xw_putA fl_V_47 fz_V_47 (by decide) dd_V_start_16 n2 rfl hB rfl rfl (fun h3 n3 f3 => ?_)
    have hk3 : ∀ b e, h b = some e → ¬ (xt e = 0 ∧ b = x) → h3 b = some e := fun b e hb hn => by
      have hbx : b ≠ x := fun q => hn ⟨by subst q; rw [h1] at hb; cases hb; rfl, q⟩
      exact (f3 b hbx).trans ((f2 b hbx).trans hb)
    have H3 : vo_at G h3 x (fs, lt, hd, rg, gs, true, -1) S ar cp := H.setX n3 hk3
    have fr3 : frV x h h3 := fun b e hb hp => hk3 b e hb (by omega)
    obtain ⟨g1, ⟨ys, g2⟩, ⟨f, g3, g3'⟩, g4, g5, g6, g7⟩ := id H3
    obtain ⟨_, ⟨hT, ⟨-, -, gg, ⟨⟨_, c3⟩, c4, -⟩, -⟩, -⟩⟩ := id g4
    refine xw_aloadR_n dd_V_start_19 rfl ?_
    refine xw_get fl_V_28 dd_V_start_20 n3 rfl ?_
    refine xw_aloadR_n dd_V_start_23 rfl ?_
    refine xw_get fl_V_21 dd_V_start_24 n3 rfl ?_
    refine xw_dom (fun hdm3 _ => ?_)
    refine xw_less (kc' := 100 + 32) (ks' := 1000 + 384) (by decide) (by decide) ?_
    refine xw_cl (ct_H_recall g4 g7.2.2.1 g3 g3' (xt_ne g3.2.1 c4 (by simp [xt]))) (iv_V_start_27 hT) ok_H_recall rfl rfl rfl ?_ (fun _ _ _ q => by cases q.1)
    rintro v h4 z4 ⟨hv, ⟨ea', cap', q1, q2, q3⟩, q4, q5⟩
    cases hv
    have hk4 : ∀ b e, h3 b = some e → ¬ ((xt e = 8 ∧ b = x + 6) ∨ (xt e = 103 ∧ b = ar 1 ∧ cp 1 ≠ 0) ∨ xt e = 5) → h4 b = some e := fun b e hb hn => q5 b e hb ⟨fun w => by
        subst w
        rw [c3] at hb
        cases hb
        exact hn (Or.inl ⟨rfl, rfl⟩), by
        by_cases w : cp 1 = 0
        · exact Or.inr w
        · refine Or.inl (fun w2 => hn (Or.inr (Or.inl ⟨?_, w2, w⟩)))
          subst w2
          rw [c4] at hb
          cases hb
          rfl, fun q w => hn (Or.inr (Or.inr (by rw [w]; rfl)))⟩
    have H4 : vs G h4 x (fs, lt, hd, rg, sv_recall hd rg, true, -1) S := ⟨_, _, H3.setG hdm3 q1 q3 q2 hk4⟩
    have fr4 : frV x h h4 := fr3.trans (fun b e hb hp => hk4 b e hb (by omega))
    obtain ⟨_, hT4, -⟩ := id q1
    refine xw_aloadR_n dd_V_start_30 rfl ?_
    refine xw_get fl_V_28 dd_V_start_31 H4.cell rfl ?_
    refine xw_cl0 (ct_H_count q1) (iv_V_start_34 hT4) ok_H_count rfl rfl rfl ?_ (fun _ _ _ q => by cases q.1)
    rintro v h4 z4 ⟨hv, rfl, rfl⟩
    cases hv
    refine xw_istore_n dd_V_start_37 (by decide) ?_
    refine xw_iconst 0 dd_V_start_38 (by decide) ?_
    refine xw_istore_n dd_V_start_39 (by decide) ?_
    have hlen := rec_len hd rg
    have loop : ∀ (j i : Nat) (h9 : xa_H) (z9 : Nat) (V1 : sv_V) (ov : Option Value), i + j = (sv_recall hd rg).length → vs G h9 x V1 S → frV x h h9 → sv_hd V1 ≤ hd + i → sv_ends j V1 = sv_ends (sv_recall hd rg).length (fs, lt, hd, rg, sv_recall hd rg, true, -1) → xa_W G mm_V_start 12 (2 * j) (7 * j) 40 [some (.ref x), some (.int (nI (sv_recall hd rg).length)), some (.int (nI i)), ov] [] h9 z9 (vq G h x (sv_ends (sv_recall hd rg).length (fs, lt, hd, rg, sv_recall hd rg, true, -1)) S (some (.int (nI (sv_recall hd rg).length)))) := by
      intro j
      induction j with
      | zero =>
        intro i h9 z9 V1 ov hij H9 f9 hh1 he
        refine xw_iload_n dd_V_start_40 rfl ?_
        refine xw_iload_n dd_V_start_41 rfl ?_
        refine xw_icmp_ge 68 dd_V_start_42 (by decide) (fun hc => ?_) (fun hc => absurd (nI_le (by omega) (by omega)) hc)
        refine xw_iload_n dd_V_start_68 rfl ?_
        have he : V1 = sv_ends (sv_recall hd rg).length (fs, lt, hd, rg, sv_recall hd rg, true, -1) := he
        rw [← he]
        exact xw_iret dd_V_start_69 rfl ⟨rfl, H9, f9⟩
      | succ j ih =>
        intro i h9 z9 V1 ov hij H9 f9 hh1 he
        obtain ⟨ar9, cp9, H9'⟩ := id H9
        obtain ⟨t1, -, -, t4, -⟩ := H9'
        obtain ⟨_, hT9, -⟩ := id t4
        refine xw_iload_n dd_V_start_40 rfl ?_
        refine xw_iload_n dd_V_start_41 rfl ?_
        refine xw_icmp_ge 68 dd_V_start_42 (by decide) (fun hc => absurd hc (nI_ge (by omega) (by omega))) (fun hc => ?_)
        refine xw_aloadR_n dd_V_start_45 rfl ?_
        refine xw_get fl_V_28 dd_V_start_46 t1 rfl ?_
        refine xw_cl0 (ct_H_first t4) (iv_V_start_49 hT9) ok_H_first rfl rfl rfl ?_ (fun _ _ _ q => by cases q.2.2.choose_spec.1)
        rintro v h9 z9 ⟨rfl, rfl, r, hv, hr⟩
        cases hv
        rw [sv_ends] at he
        rcases hr with ⟨w1, rfl⟩ | ⟨g, y, w1, rfl, w3⟩
        · rw [w1] at he
          refine xw_astore_n (r := none) dd_V_start_52 (by decide) ?_
          refine xw_aload_n (r := none) dd_V_start_53 rfl ?_
          refine xw_ifnullN 62 dd_V_start_54 (by decide) ?_
          refine xw_iinc dd_V_start_62 rfl (nI_1 i) (by decide) ?_
          refine xw_goto 40 dd_V_start_65 (by decide) ?_
          refine xw_less (kc' := 2 * j) (ks' := 7 * j) (by omega) (by omega) ?_
          exact ih (i + 1) h9 z9 V1 _ (by omega) H9 f9 (by omega) he
        · rw [w1] at he
          refine xw_astore_n (r := some y) dd_V_start_52 (by decide) ?_
          refine xw_aloadR_n dd_V_start_53 rfl ?_
          refine xw_ifnullR dd_V_start_54 ?_
          refine xw_aloadR_n dd_V_start_57 rfl ?_
          refine xw_aloadR_n dd_V_start_58 rfl ?_
          refine xw_less (kc' := 2 * j + 2) (ks' := 7 * j + 7) (by omega) (by omega) ?_
          have hh' : hd < 800000 := hh
          refine xw_cl (ct_V_endGathering H9 w3 (by omega)) (iv_V_start_59 t1) ok_V_endGathering rfl rfl rfl ?_ (fun _ _ _ q => by cases q.1)
          rintro v h10 z10 ⟨hv, u1, u2⟩
          cases hv
          refine xw_iinc dd_V_start_62 rfl (nI_1 i) (by decide) ?_
          refine xw_goto 40 dd_V_start_65 (by decide) ?_
          exact ih (i + 1) h10 z10 (sv_endG V1 g) _ (by omega) u1 (f9.trans u2) (by rw [(eg_len V1 g).2.1]; omega) he
    refine xw_less (kc' := 2 * (sv_recall hd rg).length) (ks' := 7 * (sv_recall hd rg).length) (by omega) (by omega) ?_
    exact loop _ 0 h4 z4 _ _ (by omega) H4 fr4 (by show hd ≤ hd + 0; omega) rfl
/-- what a new volume is -/
def sv_V0 : sv_V := ([], 0, 1, (fun _ _ => 0), [], true, -1)
def sv_S0 : sv_S := ([], 0, (fun i => if i < 4 then -1 else 0), 1, 127, false, 0)
theorem ct_V_init {f : Nat → Option Nat} (hx : h x = some (.inr (0, [.null, .null, .null, .null, .int 0, .int 0, .int 0]))) (hB : G.2.2.1 ≤ x) (hu : h G.2.2.2.1 = some (xr_q 3 0 f)) (hux : G.2.2.2.1 < x) : xa_T G mm_V_init 6 19 75 [.ref x] h (x + 1) (fun o h' z => o = .returned none ∧ z = x + 20 ∧ vs G h' x sv_V0 (fun _ => sv_S0) ∧ ∀ b, b < x → h' b = h b) := by
  refine xt_o ok_V_init rfl rfl ?_
  refine xw_dom (fun hd hBz => ?_)
  refine xw_aloadR_n dd_V_init_0 rfl ?_
  refine xw_objInit ol_V_1 wo_in wo_co (by decide) (by decide) dd_V_init_1 ?_
  refine xw_aloadR_n dd_V_init_4 rfl ?_
  refine xw_less (kc' := 18 + 1) (ks' := 73 + 2) (by decide) (by decide) ?_
  refine xw_newA nw_V_7 dd_V_init_5 (fun h1 n1 f1 => ?_)
  refine xw_dup dd_V_init_8 rfl ?_
  refine xw_bipush 20 dd_V_init_9 (by decide) ?_
  refine xw_less (kc' := 17 + 1) (ks' := 70 + 3) (by decide) (by decide) ?_
  refine xw_cl (ct_F_init n1 (by omega) ((f1 _ (by omega)).trans hu)) iv_V_init_11 ok_F_init rfl rfl rfl ?_ (fun _ _ _ q => by cases q.1)
  rintro v h2 z2 ⟨hv, rfl, q2, f2⟩
  cases hv
  refine xw_putA fl_V_14 fz_V_14 (by decide) dd_V_init_14 ((f2 x (by omega) (by omega)).trans ((f1 x (by omega)).trans hx)) rfl hB rfl rfl (fun h3 n3 f3 => ?_)
  refine xw_aloadR_n dd_V_init_17 rfl ?_
  refine xw_less (kc' := 16 + 1) (ks' := 68 + 2) (by decide) (by decide) ?_
  refine xw_newA nw_V_18 dd_V_init_18 (fun h4 n4 f4 => ?_)
  refine xw_dup dd_V_init_21 rfl ?_
  refine xw_less (kc' := 15 + 1) (ks' := 52 + 16) (by decide) (by decide) ?_
  refine xw_cl (ct_R_init n4 (by omega)) iv_V_init_22 ok_R_init rfl rfl rfl ?_ (fun _ _ _ q => by cases q.1)
  rintro v h5 z5 ⟨hv, rfl, q5, f5⟩
  cases hv
  refine xw_putA fl_V_21 fz_V_21 (by decide) dd_V_init_25 ((f5 x (by omega) (by omega)).trans ((f4 x (by omega)).trans n3)) rfl hB rfl rfl (fun h6 n6 f6 => ?_)
  refine xw_aloadR_n dd_V_init_28 rfl ?_
  refine xw_less (kc' := 14 + 1) (ks' := 51 + 1) (by decide) (by decide) ?_
  refine xw_newA nw_V_25 dd_V_init_29 (fun h7 n7 f7 => ?_)
  refine xw_dup dd_V_init_32 rfl ?_
  refine xw_less (kc' := 13 + 1) (ks' := 48 + 3) (by decide) (by decide) ?_
  have ku7 : h7 G.2.2.2.1 = some (xr_q 3 0 f) := by
    rw [f7 _ (by omega), f6 _ (by omega), f5 _ (by omega) (by omega), f4 _ (by omega), f3 _ (by omega), f2 _ (by omega) (by omega), f1 _ (by omega)]
    exact hu
  refine xw_cl (ct_H_init n7 (by omega) ku7) iv_V_init_33 ok_H_init rfl rfl rfl ?_ (fun _ _ _ q => by cases q.1)
  rintro v h8 z8 ⟨hv, rfl, q8, f8⟩
  cases hv
  refine xw_putA fl_V_28 fz_V_28 (by decide) dd_V_init_36 ((f8 x (by omega) (by omega)).trans ((f7 x (by omega)).trans n6)) rfl hB rfl rfl (fun h9 n9 f9 => ?_)
  refine xw_aloadR_n dd_V_init_39 rfl ?_
  refine xw_iconst 3 dd_V_init_40 (by decide) ?_
  refine xw_less (kc' := 12 + 1) (ks' := 45 + 3) (by decide) (by decide) ?_
  refine xw_anewA (t := 5) (N := 3) rfl an_V_32 (by decide) dd_V_init_41 (by decide) (by decide) (by decide) (fun h10 n10 f10 => ?_)
  refine xw_putA fl_V_34 fz_V_34 (by decide) dd_V_init_44 ((f10 x (by omega)).trans n9) rfl hB rfl rfl (fun h11 n11 f11 => ?_)
  have lw : ∀ b, b < x → h11 b = h b := fun b hb => by
    rw [f11 b (by omega), f10 b (by omega), f9 b (by omega), f8 b (by omega) (by omega), f7 b (by omega), f6 b (by omega), f5 b (by omega) (by omega), f4 b (by omega), f3 b (by omega), f2 b (by omega) (by omega), f1 b (by omega)]
  have ku11 : h11 G.2.2.2.1 = some (xr_q 3 0 f) := (lw _ hux).trans hu
  have F11 : ft_at G h11 (x + 1) (x + 2) G.2.2.2.1 0 (nI 20) [] [] := by
    obtain ⟨w0, ⟨w1, w2, g, ⟨⟨mc, w3⟩, w4, w5, w6⟩, w7⟩, -⟩ := q2
    have k : ∀ b, b = x + 1 ∨ b = x + 2 → h11 b = h2 b := fun b hb => by
      rw [f11 b (by omega), f10 b (by omega), f9 b (by omega), f8 b (by omega) (by omega), f7 b (by omega), f6 b (by omega), f5 b (by omega) (by omega), f4 b (by omega), f3 b (by omega)]
    exact ⟨(k _ (Or.inl rfl)).trans w0, ⟨w1, w2, f, ⟨⟨mc, (k _ (Or.inr rfl)).trans w3⟩, ku11, w5, w6⟩, fun i y hy => by simp at hy⟩, rfl⟩
  have R11 : rg_at h11 (x + 3) (x + 4) 1 (fun _ => none) := by
    have k : ∀ b, b = x + 3 ∨ b = x + 4 → h11 b = h5 b := fun b hb => by
      rw [f11 b (by omega), f10 b (by omega), f9 b (by omega), f8 b (by omega) (by omega), f7 b (by omega), f6 b (by omega)]
    exact ⟨(k _ (Or.inl rfl)).trans q5.1, (k _ (Or.inr rfl)).trans q5.2.1, q5.2.2⟩
  have H11 : gh_at G h11 (x + 5) (x + 6) G.2.2.2.1 0 [] := by
    obtain ⟨xs, w0, ⟨w1, w2, g, ⟨⟨mc, w3⟩, w4, w5, w6⟩, w7⟩, w8, -⟩ := q8
    have hxs : xs = [] := by
      have := gt_l.len w8
      exact List.eq_nil_of_length_eq_zero (by simpa using this)
    subst hxs
    have k : ∀ b, b = x + 5 ∨ b = x + 6 → h11 b = h8 b := fun b hb => by
      rw [f11 b (by omega), f10 b (by omega), f9 b (by omega)]
    exact ⟨[], (k _ (Or.inl rfl)).trans w0, ⟨w1, w2, f, ⟨⟨mc, (k _ (Or.inr rfl)).trans w3⟩, ku11, w5, w6⟩, fun i y hy => by simp at hy⟩, rfl, List.nodup_nil, fun y hy => by simp at hy⟩
  refine xw_iconst 0 dd_V_init_47 (by decide) ?_
  refine xw_istore_n dd_V_init_48 (by decide) ?_
  have loop : ∀ (j i : Nat) (h12 : xa_H) (g : Nat → Option Nat), i + j = 3 → h12 x = h11 x → h12 (x + 7) = some (xr_q 5 3 g) → (∀ s, s < i → g s = some (x + 8 + 4 * s)) → (∀ s, s < i → su_at G h12 (x + 8 + 4 * s) (x + 9 + 4 * s) (x + 10 + 4 * s) G.2.2.2.1 (x + 11 + 4 * s) sv_S0) → (∀ b, b < x + 7 → h12 b = h11 b) → xa_W G mm_V_init 6 (4 * j) (15 * j) 49 [some (.ref x), some (.int (nI i))] [] h12 (x + 8 + 4 * i) (fun o h' z => o = .returned none ∧ z = x + 20 ∧ vs G h' x sv_V0 (fun _ => sv_S0) ∧ ∀ b, b < x → h' b = h b) := by
    intro j
    induction j with
    | zero =>
      intro i h12 g hij k0 k1 k2 k3 k4
      have : i = 3 := by omega
      subst this
      refine xw_iload_n dd_V_init_49 rfl ?_
      refine xw_iconst 3 dd_V_init_50 (by decide) ?_
      refine xw_icmp_ge 73 dd_V_init_51 (by decide) (fun hc => ?_) (fun hc => absurd (by decide) hc)
      refine xw_aloadR_n dd_V_init_73 rfl ?_
      refine xw_iconst 1 dd_V_init_74 (by decide) ?_
      refine xw_putA fl_V_39 fz_V_39 (by decide) dd_V_init_75 (k0.trans n11) rfl hB rfl rfl (fun h13 n13 f13 => ?_)
      refine xw_aloadR_n dd_V_init_78 rfl ?_
      refine xw_iconst 1 dd_V_init_79 (by decide) ?_
      refine xw_putA fl_V_43 fz_V_43 (by decide) dd_V_init_80 n13 rfl hB rfl rfl (fun h14 n14 f14 => ?_)
      refine xw_aloadR_n dd_V_init_83 rfl ?_
      refine xw_iconst (-1) dd_V_init_84 (by decide) ?_
      refine xw_putA fl_V_47 fz_V_47 (by decide) dd_V_init_85 n14 rfl hB rfl rfl (fun h15 n15 f15 => ?_)
      have g15 : ∀ b, b ≠ x → h15 b = h12 b := fun b hb => (f15 b hb).trans ((f14 b hb).trans (f13 b hb))
      have a15 : ∀ b, b < x + 7 → b ≠ x → h15 b = h11 b := fun b hb hb2 => (g15 b hb2).trans (k4 b hb)
      refine xw_vret dd_V_init_88 rfl ⟨rfl, by omega, ⟨fun _ => G.2.2.2.1, fun _ => 0, n15, ⟨[], ?_⟩, ⟨fun _ => none, ?_, ?_⟩, ?_, ⟨g, (g15 _ (by omega)).trans k1, k2⟩, fun s hs => ?_, hB, by decide, by decide, fun s hs => ⟨rfl, show (0 : Nat) ≤ 766 by decide, Nat.le_refl _⟩, fun _ _ _ _ _ => Or.inr rfl⟩, fun b hb => (a15 b (by omega) (by omega)).trans (lw b hb)⟩
      · obtain ⟨w0, ⟨w1, w2, g', ⟨⟨mc, w3⟩, w4, w5, w6⟩, w7⟩, w8⟩ := F11
        exact ⟨(a15 _ (by omega) (by omega)).trans w0, ⟨w1, w2, g', ⟨⟨mc, (a15 _ (by omega) (by omega)).trans w3⟩, (a15 G.2.2.2.1 (by omega) (by omega)).trans w4, w5, w6⟩, w7⟩, rfl⟩
      · exact ⟨(a15 _ (by omega) (by omega)).trans R11.1, (a15 _ (by omega) (by omega)).trans R11.2.1, R11.2.2⟩
      · intro s h2 h3
        have h3 : s < 1 := h3
        have h2 : rg_tl 1 ≤ s := h2
        have : rg_tl 1 = 1 := rfl
        omega
      · obtain ⟨xs, w0, ⟨w1, w2, g', ⟨⟨mc, w3⟩, w4, w5, w6⟩, w7⟩, w8, w9, w10⟩ := H11
        have hxs : xs = [] := by
          have := gt_l.len w8
          exact List.eq_nil_of_length_eq_zero (by simpa using this)
        subst hxs
        exact ⟨[], (a15 _ (by omega) (by omega)).trans w0, ⟨w1, w2, g', ⟨⟨mc, (a15 _ (by omega) (by omega)).trans w3⟩, (a15 G.2.2.2.1 (by omega) (by omega)).trans w4, w5, w6⟩, w7⟩, rfl, w9, w10⟩
      · refine (k3 s hs).kp (fun b e hb hc => (g15 b (fun q => ?_)).trans hb)
        subst q
        rw [k0, n11] at hb
        cases hb
        simp [xt] at hc
    | succ j ih =>
      intro i h12 g hij k0 k1 k2 k3 k4
      refine xw_dom (fun hd12 _ => ?_)
      refine xw_iload_n dd_V_init_49 rfl ?_
      refine xw_iconst 3 dd_V_init_50 (by decide) ?_
      refine xw_icmp_ge 73 dd_V_init_51 (by decide) (fun hc => absurd hc (nI_ge (a := i) (b := 3) (by omega) (by decide))) (fun hc => ?_)
      refine xw_aloadR_n dd_V_init_54 rfl ?_
      refine xw_get fl_V_34 dd_V_init_55 (k0.trans n11) rfl ?_
      refine xw_iload_n dd_V_init_58 rfl ?_
      refine xw_less (kc' := (4 * j + 3) + 1) (ks' := (15 * j + 9) + 6) (by omega) (by omega) ?_
      refine xw_newA nw_V_32 dd_V_init_59 (fun h13 n13 f13 => ?_)
      refine xw_dup dd_V_init_62 rfl ?_
      refine xw_cl (ct_S_init n13 (by omega) ((f13 _ (by omega)).trans ((k4 _ (by omega)).trans ku11))) iv_V_init_63 ok_S_init rfl rfl rfl ?_ (fun _ _ _ q => by cases q.1)
      rintro v h14 z14 ⟨hv, rfl, q14, f14⟩
      cases hv
      have g14 : ∀ b, b < x + 8 + 4 * i → h14 b = h12 b := fun b hb => (f14 b (by omega) (by omega)).trans (f13 b (by omega))
      refine xw_aastA (t := 5) rfl (ci := 7) ⟨_, rfl, Or.inl rfl⟩ dd_V_init_66 ((g14 _ (by omega)).trans k1) q14.1 (vp_in_nI (by omega) (by decide)) (by omega) (fun h15 n15 f15 => ?_)
      rw [nI_clamp (by omega)] at n15
      refine xw_iinc dd_V_init_67 rfl (nI_1 i) (by decide) ?_
      refine xw_goto 49 dd_V_init_70 (by decide) ?_
      have hz : x + 8 + 4 * i + 1 + 3 = x + 8 + 4 * (i + 1) := by omega
      rw [hz]
      refine ih (i + 1) h15 _ (by omega) ((f15 x (by omega)).trans ((g14 x (by omega)).trans k0)) n15 (fun s hs => ?_) (fun s hs => ?_) (fun b hb => (f15 b (by omega)).trans ((g14 b (by omega)).trans (k4 b hb)))
      · by_cases e : s = i
        · subst e
          exact va_up_self ..
        · rw [va_up_ne _ _ e]
          exact k2 s (by omega)
      · by_cases e : s = i
        · subst e
          have e1 : x + 8 + 4 * s + 1 = x + 9 + 4 * s := by omega
          have e2 : x + 8 + 4 * s + 1 + 1 = x + 10 + 4 * s := by omega
          have e3 : x + 8 + 4 * s + 1 + 2 = x + 11 + 4 * s := by omega
          rw [e2, e3, e1] at q14
          refine q14.kp (fun b e hb hc => (f15 b (fun q => ?_)).trans hb)
          subst q
          rw [g14 _ (by omega), k1] at hb
          cases hb
          simp [xt] at hc
        · refine (k3 s (by omega)).kp (fun b e hb hc => ?_)
          have hbl : b ≠ x + 7 := fun q => by
            subst q
            rw [k1] at hb
            cases hb
            simp [xt] at hc
          have hb8 : b < x + 8 + 4 * i := hd12 _ _ hb
          exact (f15 b hbl).trans ((g14 b hb8).trans hb)
  refine xw_less (kc' := 0 + 12) (ks' := 0 + 45) (by decide) (by decide) ?_
  exact loop 3 0 h11 (fun _ => none) rfl rfl ((f11 _ (by omega)).trans n10) (fun s hs => by omega) (fun s hs => by omega) (fun _ _ => rfl)
end VT
end
